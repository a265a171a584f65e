/-! the words of the tables, by their places -/
def lw_good : List Cond := lw_tbl.filter goodWord
theorem lw_in {w : Cond} {i : Nat} (h : tables_1[i]? = some w) (hg : goodWord w = true) : w ∈ lw_good := List.mem_filter.mpr ⟨List.mem_append_right _ (List.mem_of_getElem? h), hg⟩
theorem lw_inP {w : Cond} {i : Nat} (h : (k2_sels lw_privs)[i]? = some w) (hg : goodWord w = true) : w ∈ lw_good := List.mem_filter.mpr ⟨List.mem_append_left _ (List.mem_of_getElem? h), hg⟩
theorem w0 : Cond.initialized RL ∈ lw_good := lw_in (i := 0) (by decide +kernel) rfl
theorem w1 : Cond.initialized RX11 ∈ lw_good := lw_in (i := 1) (by decide +kernel) rfl
theorem w2 : Cond.initialized RX7 ∈ lw_good := lw_in (i := 2) (by decide +kernel) rfl
theorem w3 : Cond.initialized RX9 ∈ lw_good := lw_in (i := 3) (by decide +kernel) rfl
theorem w4 : Cond.initialized RX6 ∈ lw_good := lw_in (i := 4) (by decide +kernel) rfl
theorem w5 : Cond.initialized RX1 ∈ lw_good := lw_in (i := 5) (by decide +kernel) rfl
theorem w6 : Cond.initialized RX0 ∈ lw_good := lw_in (i := 6) (by decide +kernel) rfl
theorem w7 : Cond.initialized RX2 ∈ lw_good := lw_in (i := 7) (by decide +kernel) rfl
theorem w8 : Cond.initialized RX4 ∈ lw_good := lw_in (i := 8) (by decide +kernel) rfl
theorem w9 : Cond.initialized RX5 ∈ lw_good := lw_in (i := 9) (by decide +kernel) rfl
theorem w10 : Cond.initialized RX3 ∈ lw_good := lw_in (i := 10) (by decide +kernel) rfl
theorem w11 : Cond.initialized RX10 ∈ lw_good := lw_in (i := 11) (by decide +kernel) rfl
theorem w12 : Cond.initialized RX8 ∈ lw_good := lw_in (i := 12) (by decide +kernel) rfl
theorem w13 : Cond.initialized RX12 ∈ lw_good := lw_in (i := 13) (by decide +kernel) rfl
theorem w14 : Cond.initialized RJ9 ∈ lw_good := lw_in (i := 14) (by decide +kernel) rfl
theorem w15 : Cond.initialized RJ6 ∈ lw_good := lw_in (i := 15) (by decide +kernel) rfl
theorem w16 : Cond.classLink RL 7 RX11 ∈ lw_good := lw_in (i := 16) (by decide +kernel) rfl
theorem w17 : Cond.instantiable RX11 9 ∈ lw_good := lw_in (i := 17) (by decide +kernel) rfl
theorem w18 : Cond.methodLink RL 9 yX11_init ∈ lw_good := lw_in (i := 18) (by decide +kernel) rfl
theorem w19 : Cond.instanceMethod yX11_init ∈ lw_good := lw_in (i := 19) (by decide +kernel) rfl
theorem w20 : Cond.code yX11_init cX11_init 2 none ∈ lw_good := lw_in (i := 20) (by decide +kernel) rfl
theorem w21 : Cond.methodLink RX11 1 ⟨"java/lang/Object", "<init>", "()V"⟩ ∈ lw_good := lw_in (i := 21) (by decide +kernel) rfl
theorem w22 : Cond.instanceMethod ⟨"java/lang/Object", "<init>", "()V"⟩ ∈ lw_good := lw_in (i := 22) (by decide +kernel) rfl
theorem w23 : Cond.code ⟨"java/lang/Object", "<init>", "()V"⟩ object_method_1_code 1 none ∈ lw_good := lw_in (i := 23) (by decide +kernel) rfl
theorem w24 : Cond.classLink RX11 7 RX7 ∈ lw_good := lw_in (i := 24) (by decide +kernel) rfl
theorem w25 : Cond.instantiable RX7 3 ∈ lw_good := lw_in (i := 25) (by decide +kernel) rfl
theorem w26 : Cond.methodLink RX11 9 yX7_init ∈ lw_good := lw_in (i := 26) (by decide +kernel) rfl
theorem w27 : Cond.instanceMethod yX7_init ∈ lw_good := lw_in (i := 27) (by decide +kernel) rfl
theorem w28 : Cond.code yX7_init cX7_init 2 none ∈ lw_good := lw_in (i := 28) (by decide +kernel) rfl
theorem w29 : Cond.methodLink RX7 3 ⟨"java/lang/Object", "<init>", "()V"⟩ ∈ lw_good := lw_in (i := 29) (by decide +kernel) rfl
theorem w32 : Cond.methodLink RX7 13 ⟨"[I", "clone", "()Ljava/lang/Object;"⟩ ∈ lw_good := lw_in (i := 32) (by decide +kernel) rfl
theorem w35 : Cond.instanceMethod ⟨"java/lang/Object", "clone", "()Ljava/lang/Object;"⟩ ∈ lw_good := lw_in (i := 35) (by decide +kernel) rfl
theorem w36 : Cond.selects "[I" ⟨"[I", "clone", "()Ljava/lang/Object;"⟩ ⟨"java/lang/Object", "clone", "()Ljava/lang/Object;"⟩ ∈ lw_good := lw_in (i := 36) (by decide +kernel) rfl
theorem w38 : Cond.classLink RX7 14 "[I" ∈ lw_good := lw_in (i := 38) (by decide +kernel) rfl
theorem w39 : Cond.classLink RX7 23 RX9 ∈ lw_good := lw_in (i := 39) (by decide +kernel) rfl
theorem w40 : Cond.instantiable RX9 4 ∈ lw_good := lw_in (i := 40) (by decide +kernel) rfl
theorem w42 : Cond.instanceMethod yX9_init ∈ lw_good := lw_in (i := 42) (by decide +kernel) rfl
theorem w43 : Cond.code yX9_init cX9_init 1 none ∈ lw_good := lw_in (i := 43) (by decide +kernel) rfl
theorem w44 : Cond.methodLink RX9 3 ⟨"java/lang/Object", "<init>", "()V"⟩ ∈ lw_good := lw_in (i := 44) (by decide +kernel) rfl
theorem w45 : Cond.fieldLink RX9 21 "PhaseLights$Types" "told" "I" ∈ lw_good := lw_in (i := 45) (by decide +kernel) rfl
theorem w46 : Cond.fieldLink RX7 82 "PhaseLights$Types" "told" "I" ∈ lw_good := lw_in (i := 46) (by decide +kernel) rfl
theorem w47 : Cond.fieldLink RX11 282 "PhaseLights$Types" "told" "I" ∈ lw_good := lw_in (i := 47) (by decide +kernel) rfl
theorem w48 : Cond.fieldLink RX9 9 "PhaseLights$Types" "watts" "[I" ∈ lw_good := lw_in (i := 48) (by decide +kernel) rfl
theorem w49 : Cond.fieldLink RX9 15 "PhaseLights$Types" "stock" "[I" ∈ lw_good := lw_in (i := 49) (by decide +kernel) rfl
theorem w50 : Cond.fieldLink RX9 18 "PhaseLights$Types" "price" "[I" ∈ lw_good := lw_in (i := 50) (by decide +kernel) rfl
theorem w51 : Cond.lays "PhaseLights$Types" "PhaseLights$Types" "told" "I" ∈ lw_good := lw_in (i := 51) (by decide +kernel) rfl
theorem w53 : Cond.laysFinal "PhaseLights$Types" "PhaseLights$Types" "watts" "[I" ∈ lw_good := lw_in (i := 53) (by decide +kernel) rfl
theorem w55 : Cond.laysFinal "PhaseLights$Types" "PhaseLights$Types" "stock" "[I" ∈ lw_good := lw_in (i := 55) (by decide +kernel) rfl
theorem w57 : Cond.laysFinal "PhaseLights$Types" "PhaseLights$Types" "price" "[I" ∈ lw_good := lw_in (i := 57) (by decide +kernel) rfl
theorem w60 : Cond.arrayClass Jvm.ClassFile.FieldType.int ∈ lw_good := lw_in (i := 60) (by decide +kernel) rfl
theorem w61 : Cond.classLink RX7 30 RX6 ∈ lw_good := lw_in (i := 61) (by decide +kernel) rfl
theorem w63 : Cond.instantiable RX6 13 ∈ lw_good := lw_in (i := 63) (by decide +kernel) rfl
theorem w64 : Cond.methodLink RX7 36 yX6_init ∈ lw_good := lw_in (i := 64) (by decide +kernel) rfl
theorem w65 : Cond.instanceMethod yX6_init ∈ lw_good := lw_in (i := 65) (by decide +kernel) rfl
theorem w66 : Cond.code yX6_init cX6_init 2 none ∈ lw_good := lw_in (i := 66) (by decide +kernel) rfl
theorem w67 : Cond.methodLink RX6 3 ⟨"java/lang/Object", "<init>", "()V"⟩ ∈ lw_good := lw_in (i := 67) (by decide +kernel) rfl
theorem w68 : Cond.classLink RX6 30 "[[I" ∈ lw_good := lw_in (i := 68) (by decide +kernel) rfl
theorem w70 : Cond.classLink RX6 35 RX1 ∈ lw_good := lw_in (i := 70) (by decide +kernel) rfl
theorem w71 : Cond.instantiable RX1 4 ∈ lw_good := lw_in (i := 71) (by decide +kernel) rfl
theorem w73 : Cond.instanceMethod yX1_init ∈ lw_good := lw_in (i := 73) (by decide +kernel) rfl
theorem w74 : Cond.code yX1_init cX1_init 1 none ∈ lw_good := lw_in (i := 74) (by decide +kernel) rfl
theorem w75 : Cond.methodLink RX1 3 ⟨"java/lang/Object", "<init>", "()V"⟩ ∈ lw_good := lw_in (i := 75) (by decide +kernel) rfl
theorem w76 : Cond.fieldLink RX1 18 "PhaseLights$Fade" "ticks" "I" ∈ lw_good := lw_in (i := 76) (by decide +kernel) rfl
theorem w77 : Cond.fieldLink RX1 22 "PhaseLights$Fade" "gone" "I" ∈ lw_good := lw_in (i := 77) (by decide +kernel) rfl
theorem w78 : Cond.fieldLink RX1 9 "PhaseLights$Fade" "from" "[I" ∈ lw_good := lw_in (i := 78) (by decide +kernel) rfl
theorem w79 : Cond.fieldLink RX1 15 "PhaseLights$Fade" "to" "[I" ∈ lw_good := lw_in (i := 79) (by decide +kernel) rfl
theorem w80 : Cond.lays "PhaseLights$Fade" "PhaseLights$Fade" "ticks" "I" ∈ lw_good := lw_in (i := 80) (by decide +kernel) rfl
theorem w82 : Cond.lays "PhaseLights$Fade" "PhaseLights$Fade" "gone" "I" ∈ lw_good := lw_in (i := 82) (by decide +kernel) rfl
theorem w84 : Cond.laysFinal "PhaseLights$Fade" "PhaseLights$Fade" "from" "[I" ∈ lw_good := lw_in (i := 84) (by decide +kernel) rfl
theorem w86 : Cond.laysFinal "PhaseLights$Fade" "PhaseLights$Fade" "to" "[I" ∈ lw_good := lw_in (i := 86) (by decide +kernel) rfl
theorem w89 : Cond.classLink RX6 42 RX0 ∈ lw_good := lw_in (i := 89) (by decide +kernel) rfl
theorem w90 : Cond.instantiable RX0 2 ∈ lw_good := lw_in (i := 90) (by decide +kernel) rfl
theorem w91 : Cond.methodLink RX6 44 yX0_init ∈ lw_good := lw_in (i := 91) (by decide +kernel) rfl
theorem w92 : Cond.instanceMethod yX0_init ∈ lw_good := lw_in (i := 92) (by decide +kernel) rfl
theorem w93 : Cond.code yX0_init cX0_init 2 none ∈ lw_good := lw_in (i := 93) (by decide +kernel) rfl
theorem w94 : Cond.methodLink RX0 1 ⟨"java/lang/Object", "<init>", "()V"⟩ ∈ lw_good := lw_in (i := 94) (by decide +kernel) rfl
theorem w95 : Cond.fieldLink RX0 7 "PhaseLights$Breakers" "counts" "[I" ∈ lw_good := lw_in (i := 95) (by decide +kernel) rfl
theorem w96 : Cond.fieldLink RX11 228 "PhaseLights$Breakers" "counts" "[I" ∈ lw_good := lw_in (i := 96) (by decide +kernel) rfl
theorem w97 : Cond.fieldLink RX0 13 "PhaseLights$Breakers" "tripped" "I" ∈ lw_good := lw_in (i := 97) (by decide +kernel) rfl
theorem w98 : Cond.fieldLink RX11 263 "PhaseLights$Breakers" "tripped" "I" ∈ lw_good := lw_in (i := 98) (by decide +kernel) rfl
theorem w99 : Cond.laysFinal "PhaseLights$Breakers" "PhaseLights$Breakers" "counts" "[I" ∈ lw_good := lw_in (i := 99) (by decide +kernel) rfl
theorem w101 : Cond.lays "PhaseLights$Breakers" "PhaseLights$Breakers" "tripped" "I" ∈ lw_good := lw_in (i := 101) (by decide +kernel) rfl
theorem w104 : Cond.fieldLink RX6 54 "PhaseLights$Premiere" "first" "I" ∈ lw_good := lw_in (i := 104) (by decide +kernel) rfl
theorem w105 : Cond.fieldLink RX11 106 "PhaseLights$Premiere" "first" "I" ∈ lw_good := lw_in (i := 105) (by decide +kernel) rfl
theorem w106 : Cond.fieldLink RX6 58 "PhaseLights$Premiere" "last" "I" ∈ lw_good := lw_in (i := 106) (by decide +kernel) rfl
theorem w107 : Cond.fieldLink RX11 100 "PhaseLights$Premiere" "last" "I" ∈ lw_good := lw_in (i := 107) (by decide +kernel) rfl
theorem w108 : Cond.fieldLink RX3 21 "PhaseLights$Premiere" "lamps" "I" ∈ lw_good := lw_in (i := 108) (by decide +kernel) rfl
theorem w109 : Cond.fieldLink RX6 61 "PhaseLights$Premiere" "lamps" "I" ∈ lw_good := lw_in (i := 109) (by decide +kernel) rfl
theorem w110 : Cond.fieldLink RX7 52 "PhaseLights$Premiere" "lamps" "I" ∈ lw_good := lw_in (i := 110) (by decide +kernel) rfl
theorem w111 : Cond.fieldLink RX11 251 "PhaseLights$Premiere" "lamps" "I" ∈ lw_good := lw_in (i := 111) (by decide +kernel) rfl
theorem w112 : Cond.fieldLink RX6 9 "PhaseLights$Premiere" "lampType" "[I" ∈ lw_good := lw_in (i := 112) (by decide +kernel) rfl
theorem w113 : Cond.fieldLink RX11 206 "PhaseLights$Premiere" "lampType" "[I" ∈ lw_good := lw_in (i := 113) (by decide +kernel) rfl
theorem w114 : Cond.fieldLink RX6 15 "PhaseLights$Premiere" "lampDimmer" "[I" ∈ lw_good := lw_in (i := 114) (by decide +kernel) rfl
theorem w115 : Cond.fieldLink RX11 128 "PhaseLights$Premiere" "lampDimmer" "[I" ∈ lw_good := lw_in (i := 115) (by decide +kernel) rfl
theorem w116 : Cond.fieldLink RX6 18 "PhaseLights$Premiere" "wanted" "[I" ∈ lw_good := lw_in (i := 116) (by decide +kernel) rfl
theorem w117 : Cond.fieldLink RX11 155 "PhaseLights$Premiere" "wanted" "[I" ∈ lw_good := lw_in (i := 117) (by decide +kernel) rfl
theorem w118 : Cond.fieldLink RX4 132 "PhaseLights$Premiere" "wanted" "[I" ∈ lw_good := lw_in (i := 118) (by decide +kernel) rfl
theorem w119 : Cond.fieldLink RX6 21 "PhaseLights$Premiere" "level" "[I" ∈ lw_good := lw_in (i := 119) (by decide +kernel) rfl
theorem w120 : Cond.fieldLink RX11 209 "PhaseLights$Premiere" "level" "[I" ∈ lw_good := lw_in (i := 120) (by decide +kernel) rfl
theorem w121 : Cond.fieldLink RX6 24 "PhaseLights$Premiere" "dimmerPhase" "[I" ∈ lw_good := lw_in (i := 121) (by decide +kernel) rfl
theorem w122 : Cond.fieldLink RX11 137 "PhaseLights$Premiere" "dimmerPhase" "[I" ∈ lw_good := lw_in (i := 122) (by decide +kernel) rfl
theorem w123 : Cond.fieldLink RX6 27 "PhaseLights$Premiere" "cueTicks" "[I" ∈ lw_good := lw_in (i := 123) (by decide +kernel) rfl
theorem w124 : Cond.fieldLink RX8 22 "PhaseLights$Premiere" "cueTicks" "[I" ∈ lw_good := lw_in (i := 124) (by decide +kernel) rfl
theorem w125 : Cond.fieldLink RX11 177 "PhaseLights$Premiere" "cueTicks" "[I" ∈ lw_good := lw_in (i := 125) (by decide +kernel) rfl
theorem w126 : Cond.fieldLink RX4 115 "PhaseLights$Premiere" "cueTicks" "[I" ∈ lw_good := lw_in (i := 126) (by decide +kernel) rfl
theorem w127 : Cond.fieldLink RX6 32 "PhaseLights$Premiere" "cueLevel" "[[I" ∈ lw_good := lw_in (i := 127) (by decide +kernel) rfl
theorem w128 : Cond.fieldLink RX3 39 "PhaseLights$Premiere" "cueLevel" "[[I" ∈ lw_good := lw_in (i := 128) (by decide +kernel) rfl
theorem w129 : Cond.fieldLink RX11 247 "PhaseLights$Premiere" "cueLevel" "[[I" ∈ lw_good := lw_in (i := 129) (by decide +kernel) rfl
theorem w130 : Cond.fieldLink RX6 38 "PhaseLights$Premiere" "fade" "LPhaseLights$Fade;" ∈ lw_good := lw_in (i := 130) (by decide +kernel) rfl
theorem w131 : Cond.fieldLink RX11 254 "PhaseLights$Premiere" "fade" "LPhaseLights$Fade;" ∈ lw_good := lw_in (i := 131) (by decide +kernel) rfl
theorem w132 : Cond.fieldLink RX6 47 "PhaseLights$Premiere" "dimmers" "LPhaseLights$Breakers;" ∈ lw_good := lw_in (i := 132) (by decide +kernel) rfl
theorem w133 : Cond.fieldLink RX11 219 "PhaseLights$Premiere" "dimmers" "LPhaseLights$Breakers;" ∈ lw_good := lw_in (i := 133) (by decide +kernel) rfl
theorem w134 : Cond.fieldLink RX6 51 "PhaseLights$Premiere" "phases" "LPhaseLights$Breakers;" ∈ lw_good := lw_in (i := 134) (by decide +kernel) rfl
theorem w135 : Cond.fieldLink RX11 234 "PhaseLights$Premiere" "phases" "LPhaseLights$Breakers;" ∈ lw_good := lw_in (i := 135) (by decide +kernel) rfl
theorem w136 : Cond.lays "PhaseLights$Premiere" "PhaseLights$Premiere" "first" "I" ∈ lw_good := lw_in (i := 136) (by decide +kernel) rfl
theorem w138 : Cond.lays "PhaseLights$Premiere" "PhaseLights$Premiere" "last" "I" ∈ lw_good := lw_in (i := 138) (by decide +kernel) rfl
theorem w140 : Cond.lays "PhaseLights$Premiere" "PhaseLights$Premiere" "lamps" "I" ∈ lw_good := lw_in (i := 140) (by decide +kernel) rfl
theorem w142 : Cond.laysFinal "PhaseLights$Premiere" "PhaseLights$Premiere" "lampType" "[I" ∈ lw_good := lw_in (i := 142) (by decide +kernel) rfl
theorem w144 : Cond.laysFinal "PhaseLights$Premiere" "PhaseLights$Premiere" "lampDimmer" "[I" ∈ lw_good := lw_in (i := 144) (by decide +kernel) rfl
theorem w146 : Cond.laysFinal "PhaseLights$Premiere" "PhaseLights$Premiere" "wanted" "[I" ∈ lw_good := lw_in (i := 146) (by decide +kernel) rfl
theorem w148 : Cond.laysFinal "PhaseLights$Premiere" "PhaseLights$Premiere" "level" "[I" ∈ lw_good := lw_in (i := 148) (by decide +kernel) rfl
theorem w150 : Cond.laysFinal "PhaseLights$Premiere" "PhaseLights$Premiere" "dimmerPhase" "[I" ∈ lw_good := lw_in (i := 150) (by decide +kernel) rfl
theorem w152 : Cond.laysFinal "PhaseLights$Premiere" "PhaseLights$Premiere" "cueTicks" "[I" ∈ lw_good := lw_in (i := 152) (by decide +kernel) rfl
theorem w154 : Cond.laysFinal "PhaseLights$Premiere" "PhaseLights$Premiere" "cueLevel" "[[I" ∈ lw_good := lw_in (i := 154) (by decide +kernel) rfl
theorem w156 : Cond.laysFinal "PhaseLights$Premiere" "PhaseLights$Premiere" "fade" "LPhaseLights$Fade;" ∈ lw_good := lw_in (i := 156) (by decide +kernel) rfl
theorem w158 : Cond.laysFinal "PhaseLights$Premiere" "PhaseLights$Premiere" "dimmers" "LPhaseLights$Breakers;" ∈ lw_good := lw_in (i := 158) (by decide +kernel) rfl
theorem w160 : Cond.laysFinal "PhaseLights$Premiere" "PhaseLights$Premiere" "phases" "LPhaseLights$Breakers;" ∈ lw_good := lw_in (i := 160) (by decide +kernel) rfl
theorem w163 : Cond.fieldLink RX7 18 "PhaseLights$State" "settings" "[I" ∈ lw_good := lw_in (i := 163) (by decide +kernel) rfl
theorem w164 : Cond.fieldLink RX8 30 "PhaseLights$State" "settings" "[I" ∈ lw_good := lw_in (i := 164) (by decide +kernel) rfl
theorem w165 : Cond.fieldLink RX11 75 "PhaseLights$State" "settings" "[I" ∈ lw_good := lw_in (i := 165) (by decide +kernel) rfl
theorem w166 : Cond.fieldLink RX6 109 "PhaseLights$State" "settings" "[I" ∈ lw_good := lw_in (i := 166) (by decide +kernel) rfl
theorem w167 : Cond.fieldLink RX7 26 "PhaseLights$State" "types" "LPhaseLights$Types;" ∈ lw_good := lw_in (i := 167) (by decide +kernel) rfl
theorem w168 : Cond.fieldLink RX11 78 "PhaseLights$State" "types" "LPhaseLights$Types;" ∈ lw_good := lw_in (i := 168) (by decide +kernel) rfl
theorem w169 : Cond.fieldLink RX6 117 "PhaseLights$State" "types" "LPhaseLights$Types;" ∈ lw_good := lw_in (i := 169) (by decide +kernel) rfl
theorem w170 : Cond.fieldLink RX7 32 "PhaseLights$State" "premieres" "[LPhaseLights$Premiere;" ∈ lw_good := lw_in (i := 170) (by decide +kernel) rfl
theorem w171 : Cond.fieldLink RX11 186 "PhaseLights$State" "premieres" "[LPhaseLights$Premiere;" ∈ lw_good := lw_in (i := 171) (by decide +kernel) rfl
theorem w172 : Cond.laysFinal "PhaseLights$State" "PhaseLights$State" "settings" "[I" ∈ lw_good := lw_in (i := 172) (by decide +kernel) rfl
theorem w174 : Cond.laysFinal "PhaseLights$State" "PhaseLights$State" "types" "LPhaseLights$Types;" ∈ lw_good := lw_in (i := 174) (by decide +kernel) rfl
theorem w176 : Cond.laysFinal "PhaseLights$State" "PhaseLights$State" "premieres" "[LPhaseLights$Premiere;" ∈ lw_good := lw_in (i := 176) (by decide +kernel) rfl
theorem w179 : Cond.classLink RX11 16 RX2 ∈ lw_good := lw_in (i := 179) (by decide +kernel) rfl
theorem w180 : Cond.instantiable RX2 2 ∈ lw_good := lw_in (i := 180) (by decide +kernel) rfl
theorem w181 : Cond.methodLink RX11 18 yX2_init ∈ lw_good := lw_in (i := 181) (by decide +kernel) rfl
theorem w182 : Cond.instanceMethod yX2_init ∈ lw_good := lw_in (i := 182) (by decide +kernel) rfl
theorem w183 : Cond.code yX2_init cX2_init 2 none ∈ lw_good := lw_in (i := 183) (by decide +kernel) rfl
theorem w184 : Cond.methodLink RX2 3 ⟨"java/lang/Object", "<init>", "()V"⟩ ∈ lw_good := lw_in (i := 184) (by decide +kernel) rfl
theorem w185 : Cond.classLink RX2 9 RX7 ∈ lw_good := lw_in (i := 185) (by decide +kernel) rfl
theorem w187 : Cond.methodLink RX2 17 yX7_init ∈ lw_good := lw_in (i := 187) (by decide +kernel) rfl
theorem w188 : Cond.fieldLink RX2 11 "PhaseLights$History" "states" "[LPhaseLights$State;" ∈ lw_good := lw_in (i := 188) (by decide +kernel) rfl
theorem w189 : Cond.fieldLink RX2 18 "PhaseLights$History" "size" "I" ∈ lw_good := lw_in (i := 189) (by decide +kernel) rfl
theorem w190 : Cond.fieldLink RX11 294 "PhaseLights$History" "size" "I" ∈ lw_good := lw_in (i := 190) (by decide +kernel) rfl
theorem w191 : Cond.laysFinal "PhaseLights$History" "PhaseLights$History" "states" "[LPhaseLights$State;" ∈ lw_good := lw_in (i := 191) (by decide +kernel) rfl
theorem w193 : Cond.lays "PhaseLights$History" "PhaseLights$History" "size" "I" ∈ lw_good := lw_in (i := 193) (by decide +kernel) rfl
theorem w196 : Cond.classLink RX11 27 RX4 ∈ lw_good := lw_in (i := 196) (by decide +kernel) rfl
theorem w197 : Cond.instantiable RX4 11 ∈ lw_good := lw_in (i := 197) (by decide +kernel) rfl
theorem w199 : Cond.instanceMethod yX4_init ∈ lw_good := lw_in (i := 199) (by decide +kernel) rfl
theorem w200 : Cond.code yX4_init cX4_init 1 none ∈ lw_good := lw_in (i := 200) (by decide +kernel) rfl
theorem w201 : Cond.methodLink RX4 3 ⟨"java/lang/Object", "<init>", "()V"⟩ ∈ lw_good := lw_in (i := 201) (by decide +kernel) rfl
theorem w202 : Cond.classLink RX4 9 RX5 ∈ lw_good := lw_in (i := 202) (by decide +kernel) rfl
theorem w203 : Cond.instantiable RX5 2 ∈ lw_good := lw_in (i := 203) (by decide +kernel) rfl
theorem w205 : Cond.instanceMethod yX5_init ∈ lw_good := lw_in (i := 205) (by decide +kernel) rfl
theorem w206 : Cond.code yX5_init cX5_init 1 none ∈ lw_good := lw_in (i := 206) (by decide +kernel) rfl
theorem w207 : Cond.methodLink RX5 3 ⟨"java/lang/Object", "<init>", "()V"⟩ ∈ lw_good := lw_in (i := 207) (by decide +kernel) rfl
theorem w208 : Cond.fieldLink RX5 9 "PhaseLights$Pad" "signs" "[I" ∈ lw_good := lw_in (i := 208) (by decide +kernel) rfl
theorem w209 : Cond.fieldLink RX4 89 "PhaseLights$Pad" "signs" "[I" ∈ lw_good := lw_in (i := 209) (by decide +kernel) rfl
theorem w210 : Cond.fieldLink RX4 55 "PhaseLights$Pad" "length" "I" ∈ lw_good := lw_in (i := 210) (by decide +kernel) rfl
theorem w211 : Cond.fieldLink RX5 21 "PhaseLights$Pad" "length" "I" ∈ lw_good := lw_in (i := 211) (by decide +kernel) rfl
theorem w212 : Cond.fieldLink RX11 197 "PhaseLights$Pad" "length" "I" ∈ lw_good := lw_in (i := 212) (by decide +kernel) rfl
theorem w213 : Cond.laysFinal "PhaseLights$Pad" "PhaseLights$Pad" "signs" "[I" ∈ lw_good := lw_in (i := 213) (by decide +kernel) rfl
theorem w215 : Cond.lays "PhaseLights$Pad" "PhaseLights$Pad" "length" "I" ∈ lw_good := lw_in (i := 215) (by decide +kernel) rfl
theorem w218 : Cond.fieldLink RX4 12 "PhaseLights$Orders" "pad" "LPhaseLights$Pad;" ∈ lw_good := lw_in (i := 218) (by decide +kernel) rfl
theorem w219 : Cond.fieldLink RX11 34 "PhaseLights$Orders" "pad" "LPhaseLights$Pad;" ∈ lw_good := lw_in (i := 219) (by decide +kernel) rfl
theorem w220 : Cond.fieldLink RX4 52 "PhaseLights$Orders" "place" "I" ∈ lw_good := lw_in (i := 220) (by decide +kernel) rfl
theorem w221 : Cond.fieldLink RX11 325 "PhaseLights$Orders" "place" "I" ∈ lw_good := lw_in (i := 221) (by decide +kernel) rfl
theorem w222 : Cond.fieldLink RX4 86 "PhaseLights$Orders" "sign" "I" ∈ lw_good := lw_in (i := 222) (by decide +kernel) rfl
theorem w223 : Cond.fieldLink RX4 37 "PhaseLights$Orders" "orders" "I" ∈ lw_good := lw_in (i := 223) (by decide +kernel) rfl
theorem w224 : Cond.fieldLink RX4 18 "PhaseLights$Orders" "kind" "[I" ∈ lw_good := lw_in (i := 224) (by decide +kernel) rfl
theorem w225 : Cond.fieldLink RX4 22 "PhaseLights$Orders" "levelOrCue" "[I" ∈ lw_good := lw_in (i := 225) (by decide +kernel) rfl
theorem w226 : Cond.fieldLink RX4 25 "PhaseLights$Orders" "cueTicks" "[I" ∈ lw_good := lw_in (i := 226) (by decide +kernel) rfl
theorem w227 : Cond.fieldLink RX4 28 "PhaseLights$Orders" "spansEnd" "[I" ∈ lw_good := lw_in (i := 227) (by decide +kernel) rfl
theorem w228 : Cond.fieldLink RX4 41 "PhaseLights$Orders" "spans" "I" ∈ lw_good := lw_in (i := 228) (by decide +kernel) rfl
theorem w229 : Cond.fieldLink RX4 31 "PhaseLights$Orders" "spanFirst" "[I" ∈ lw_good := lw_in (i := 229) (by decide +kernel) rfl
theorem w230 : Cond.fieldLink RX4 34 "PhaseLights$Orders" "spanLast" "[I" ∈ lw_good := lw_in (i := 230) (by decide +kernel) rfl
theorem w231 : Cond.laysFinal "PhaseLights$Orders" "PhaseLights$Orders" "pad" "LPhaseLights$Pad;" ∈ lw_good := lw_in (i := 231) (by decide +kernel) rfl
theorem w233 : Cond.lays "PhaseLights$Orders" "PhaseLights$Orders" "place" "I" ∈ lw_good := lw_in (i := 233) (by decide +kernel) rfl
theorem w235 : Cond.lays "PhaseLights$Orders" "PhaseLights$Orders" "sign" "I" ∈ lw_good := lw_in (i := 235) (by decide +kernel) rfl
theorem w237 : Cond.lays "PhaseLights$Orders" "PhaseLights$Orders" "orders" "I" ∈ lw_good := lw_in (i := 237) (by decide +kernel) rfl
theorem w239 : Cond.laysFinal "PhaseLights$Orders" "PhaseLights$Orders" "kind" "[I" ∈ lw_good := lw_in (i := 239) (by decide +kernel) rfl
theorem w241 : Cond.laysFinal "PhaseLights$Orders" "PhaseLights$Orders" "levelOrCue" "[I" ∈ lw_good := lw_in (i := 241) (by decide +kernel) rfl
theorem w243 : Cond.laysFinal "PhaseLights$Orders" "PhaseLights$Orders" "cueTicks" "[I" ∈ lw_good := lw_in (i := 243) (by decide +kernel) rfl
theorem w245 : Cond.laysFinal "PhaseLights$Orders" "PhaseLights$Orders" "spansEnd" "[I" ∈ lw_good := lw_in (i := 245) (by decide +kernel) rfl
theorem w247 : Cond.lays "PhaseLights$Orders" "PhaseLights$Orders" "spans" "I" ∈ lw_good := lw_in (i := 247) (by decide +kernel) rfl
theorem w249 : Cond.laysFinal "PhaseLights$Orders" "PhaseLights$Orders" "spanFirst" "[I" ∈ lw_good := lw_in (i := 249) (by decide +kernel) rfl
theorem w251 : Cond.laysFinal "PhaseLights$Orders" "PhaseLights$Orders" "spanLast" "[I" ∈ lw_good := lw_in (i := 251) (by decide +kernel) rfl
theorem w254 : Cond.classLink RX11 39 RX3 ∈ lw_good := lw_in (i := 254) (by decide +kernel) rfl
theorem w255 : Cond.instantiable RX3 2 ∈ lw_good := lw_in (i := 255) (by decide +kernel) rfl
theorem w257 : Cond.instanceMethod yX3_init ∈ lw_good := lw_in (i := 257) (by decide +kernel) rfl
theorem w258 : Cond.code yX3_init cX3_init 1 none ∈ lw_good := lw_in (i := 258) (by decide +kernel) rfl
theorem w259 : Cond.methodLink RX3 3 ⟨"java/lang/Object", "<init>", "()V"⟩ ∈ lw_good := lw_in (i := 259) (by decide +kernel) rfl
theorem w260 : Cond.fieldLink RX3 9 "PhaseLights$Loads" "ofDimmer" "[I" ∈ lw_good := lw_in (i := 260) (by decide +kernel) rfl
theorem w261 : Cond.fieldLink RX10 28 "PhaseLights$Loads" "ofDimmer" "[I" ∈ lw_good := lw_in (i := 261) (by decide +kernel) rfl
theorem w262 : Cond.fieldLink RX8 49 "PhaseLights$Loads" "ofDimmer" "[I" ∈ lw_good := lw_in (i := 262) (by decide +kernel) rfl
theorem w263 : Cond.fieldLink RX11 145 "PhaseLights$Loads" "ofDimmer" "[I" ∈ lw_good := lw_in (i := 263) (by decide +kernel) rfl
theorem w264 : Cond.fieldLink RX6 127 "PhaseLights$Loads" "ofDimmer" "[I" ∈ lw_good := lw_in (i := 264) (by decide +kernel) rfl
theorem w265 : Cond.fieldLink RX3 15 "PhaseLights$Loads" "ofPhase" "[I" ∈ lw_good := lw_in (i := 265) (by decide +kernel) rfl
theorem w266 : Cond.fieldLink RX10 36 "PhaseLights$Loads" "ofPhase" "[I" ∈ lw_good := lw_in (i := 266) (by decide +kernel) rfl
theorem w267 : Cond.fieldLink RX8 67 "PhaseLights$Loads" "ofPhase" "[I" ∈ lw_good := lw_in (i := 267) (by decide +kernel) rfl
theorem w268 : Cond.fieldLink RX11 148 "PhaseLights$Loads" "ofPhase" "[I" ∈ lw_good := lw_in (i := 268) (by decide +kernel) rfl
theorem w269 : Cond.fieldLink RX6 134 "PhaseLights$Loads" "ofPhase" "[I" ∈ lw_good := lw_in (i := 269) (by decide +kernel) rfl
theorem w270 : Cond.laysFinal "PhaseLights$Loads" "PhaseLights$Loads" "ofDimmer" "[I" ∈ lw_good := lw_in (i := 270) (by decide +kernel) rfl
theorem w272 : Cond.laysFinal "PhaseLights$Loads" "PhaseLights$Loads" "ofPhase" "[I" ∈ lw_good := lw_in (i := 272) (by decide +kernel) rfl
theorem w275 : Cond.classLink RX11 46 RX10 ∈ lw_good := lw_in (i := 275) (by decide +kernel) rfl
theorem w276 : Cond.instantiable RX10 2 ∈ lw_good := lw_in (i := 276) (by decide +kernel) rfl
theorem w278 : Cond.instanceMethod yX10_init ∈ lw_good := lw_in (i := 278) (by decide +kernel) rfl
theorem w279 : Cond.code yX10_init cX10_init 1 none ∈ lw_good := lw_in (i := 279) (by decide +kernel) rfl
theorem w280 : Cond.methodLink RX10 3 ⟨"java/lang/Object", "<init>", "()V"⟩ ∈ lw_good := lw_in (i := 280) (by decide +kernel) rfl
theorem w281 : Cond.classLink RX10 9 RX3 ∈ lw_good := lw_in (i := 281) (by decide +kernel) rfl
theorem w283 : Cond.fieldLink RX10 12 "PhaseLights$Worst" "loads" "LPhaseLights$Loads;" ∈ lw_good := lw_in (i := 283) (by decide +kernel) rfl
theorem w284 : Cond.fieldLink RX11 144 "PhaseLights$Worst" "loads" "LPhaseLights$Loads;" ∈ lw_good := lw_in (i := 284) (by decide +kernel) rfl
theorem w285 : Cond.fieldLink RX10 18 "PhaseLights$Worst" "byCue" "LPhaseLights$Loads;" ∈ lw_good := lw_in (i := 285) (by decide +kernel) rfl
theorem w286 : Cond.laysFinal "PhaseLights$Worst" "PhaseLights$Worst" "loads" "LPhaseLights$Loads;" ∈ lw_good := lw_in (i := 286) (by decide +kernel) rfl
theorem w288 : Cond.laysFinal "PhaseLights$Worst" "PhaseLights$Worst" "byCue" "LPhaseLights$Loads;" ∈ lw_good := lw_in (i := 288) (by decide +kernel) rfl
theorem w291 : Cond.classLink RX11 53 RX8 ∈ lw_good := lw_in (i := 291) (by decide +kernel) rfl
theorem w292 : Cond.instantiable RX8 5 ∈ lw_good := lw_in (i := 292) (by decide +kernel) rfl
theorem w294 : Cond.instanceMethod yX8_init ∈ lw_good := lw_in (i := 294) (by decide +kernel) rfl
theorem w295 : Cond.code yX8_init cX8_init 1 none ∈ lw_good := lw_in (i := 295) (by decide +kernel) rfl
theorem w296 : Cond.methodLink RX8 3 ⟨"java/lang/Object", "<init>", "()V"⟩ ∈ lw_good := lw_in (i := 296) (by decide +kernel) rfl
theorem w297 : Cond.classLink RX8 9 RX6 ∈ lw_good := lw_in (i := 297) (by decide +kernel) rfl
theorem w298 : Cond.methodLink RX8 11 yX6_init ∈ lw_good := lw_in (i := 298) (by decide +kernel) rfl
theorem w299 : Cond.fieldLink RX8 12 "PhaseLights$Trial" "aside" "LPhaseLights$Premiere;" ∈ lw_good := lw_in (i := 299) (by decide +kernel) rfl
theorem w300 : Cond.fieldLink RX8 43 "PhaseLights$Trial" "trips" "I" ∈ lw_good := lw_in (i := 300) (by decide +kernel) rfl
theorem w301 : Cond.fieldLink RX11 301 "PhaseLights$Trial" "trips" "I" ∈ lw_good := lw_in (i := 301) (by decide +kernel) rfl
theorem w302 : Cond.fieldLink RX8 39 "PhaseLights$Trial" "firstTrip" "I" ∈ lw_good := lw_in (i := 302) (by decide +kernel) rfl
theorem w303 : Cond.fieldLink RX11 304 "PhaseLights$Trial" "firstTrip" "I" ∈ lw_good := lw_in (i := 303) (by decide +kernel) rfl
theorem w304 : Cond.fieldLink RX8 46 "PhaseLights$Trial" "greatestOfDimmers" "I" ∈ lw_good := lw_in (i := 304) (by decide +kernel) rfl
theorem w305 : Cond.fieldLink RX11 307 "PhaseLights$Trial" "greatestOfDimmers" "I" ∈ lw_good := lw_in (i := 305) (by decide +kernel) rfl
theorem w306 : Cond.fieldLink RX8 64 "PhaseLights$Trial" "greatestOfPhases" "I" ∈ lw_good := lw_in (i := 306) (by decide +kernel) rfl
theorem w307 : Cond.fieldLink RX11 310 "PhaseLights$Trial" "greatestOfPhases" "I" ∈ lw_good := lw_in (i := 307) (by decide +kernel) rfl
theorem w308 : Cond.laysFinal "PhaseLights$Trial" "PhaseLights$Trial" "aside" "LPhaseLights$Premiere;" ∈ lw_good := lw_in (i := 308) (by decide +kernel) rfl
theorem w310 : Cond.lays "PhaseLights$Trial" "PhaseLights$Trial" "trips" "I" ∈ lw_good := lw_in (i := 310) (by decide +kernel) rfl
theorem w312 : Cond.lays "PhaseLights$Trial" "PhaseLights$Trial" "firstTrip" "I" ∈ lw_good := lw_in (i := 312) (by decide +kernel) rfl
theorem w314 : Cond.lays "PhaseLights$Trial" "PhaseLights$Trial" "greatestOfDimmers" "I" ∈ lw_good := lw_in (i := 314) (by decide +kernel) rfl
theorem w316 : Cond.lays "PhaseLights$Trial" "PhaseLights$Trial" "greatestOfPhases" "I" ∈ lw_good := lw_in (i := 316) (by decide +kernel) rfl
theorem w319 : Cond.fieldLink RX11 10 "PhaseLights" "state" "LPhaseLights$State;" ∈ lw_good := lw_in (i := 319) (by decide +kernel) rfl
theorem w320 : Cond.fieldLink RX11 19 "PhaseLights" "history" "LPhaseLights$History;" ∈ lw_good := lw_in (i := 320) (by decide +kernel) rfl
theorem w321 : Cond.fieldLink RX11 23 "PhaseLights" "slots" "[LPhaseLights$State;" ∈ lw_good := lw_in (i := 321) (by decide +kernel) rfl
theorem w322 : Cond.fieldLink RX11 335 "PhaseLights" "savedSlots" "I" ∈ lw_good := lw_in (i := 322) (by decide +kernel) rfl
theorem w323 : Cond.fieldLink RX11 30 "PhaseLights" "orders" "LPhaseLights$Orders;" ∈ lw_good := lw_in (i := 323) (by decide +kernel) rfl
theorem w324 : Cond.fieldLink RX11 38 "PhaseLights" "pad" "LPhaseLights$Pad;" ∈ lw_good := lw_in (i := 324) (by decide +kernel) rfl
theorem w325 : Cond.fieldLink RX11 42 "PhaseLights" "loads" "LPhaseLights$Loads;" ∈ lw_good := lw_in (i := 325) (by decide +kernel) rfl
theorem w326 : Cond.fieldLink RX11 49 "PhaseLights" "worst" "LPhaseLights$Worst;" ∈ lw_good := lw_in (i := 326) (by decide +kernel) rfl
theorem w327 : Cond.fieldLink RX11 56 "PhaseLights" "trial" "LPhaseLights$Trial;" ∈ lw_good := lw_in (i := 327) (by decide +kernel) rfl
theorem w328 : Cond.laysFinal "PhaseLights" "PhaseLights" "state" "LPhaseLights$State;" ∈ lw_good := lw_in (i := 328) (by decide +kernel) rfl
theorem w330 : Cond.laysFinal "PhaseLights" "PhaseLights" "history" "LPhaseLights$History;" ∈ lw_good := lw_in (i := 330) (by decide +kernel) rfl
theorem w332 : Cond.laysFinal "PhaseLights" "PhaseLights" "slots" "[LPhaseLights$State;" ∈ lw_good := lw_in (i := 332) (by decide +kernel) rfl
theorem w334 : Cond.lays "PhaseLights" "PhaseLights" "savedSlots" "I" ∈ lw_good := lw_in (i := 334) (by decide +kernel) rfl
theorem w336 : Cond.laysFinal "PhaseLights" "PhaseLights" "orders" "LPhaseLights$Orders;" ∈ lw_good := lw_in (i := 336) (by decide +kernel) rfl
theorem w338 : Cond.laysFinal "PhaseLights" "PhaseLights" "pad" "LPhaseLights$Pad;" ∈ lw_good := lw_in (i := 338) (by decide +kernel) rfl
theorem w340 : Cond.laysFinal "PhaseLights" "PhaseLights" "loads" "LPhaseLights$Loads;" ∈ lw_good := lw_in (i := 340) (by decide +kernel) rfl
theorem w342 : Cond.laysFinal "PhaseLights" "PhaseLights" "worst" "LPhaseLights$Worst;" ∈ lw_good := lw_in (i := 342) (by decide +kernel) rfl
theorem w344 : Cond.laysFinal "PhaseLights" "PhaseLights" "trial" "LPhaseLights$Trial;" ∈ lw_good := lw_in (i := 344) (by decide +kernel) rfl
theorem w347 : Cond.methodLink RL 13 yX11_set ∈ lw_good := lw_in (i := 347) (by decide +kernel) rfl
theorem w348 : Cond.instanceMethod yX11_set ∈ lw_good := lw_in (i := 348) (by decide +kernel) rfl
theorem w349 : Cond.selects RX11 yX11_set yX11_set ∈ lw_good := lw_in (i := 349) (by decide +kernel) rfl
theorem w350 : Cond.code yX11_set cX11_set 4 (some (Jvm.ClassFile.FieldType.int)) ∈ lw_good := lw_in (i := 350) (by decide +kernel) rfl
theorem w351 : Cond.fieldLink RX11 60 "PhaseLights" "LEAST_SETTING" "[I" ∈ lw_good := lw_in (i := 351) (by decide +kernel) rfl
theorem w353 : Cond.methodLink RX11 64 yX11_isIn ∈ lw_good := lw_in (i := 353) (by decide +kernel) rfl
theorem w354 : Cond.static yX11_isIn ∈ lw_good := lw_in (i := 354) (by decide +kernel) rfl
theorem w355 : Cond.code yX11_isIn cX11_isIn 3 (some (Jvm.ClassFile.FieldType.boolean)) ∈ lw_good := lw_in (i := 355) (by decide +kernel) rfl
theorem w356 : Cond.fieldLink RX11 68 "PhaseLights" "MOST_SETTING" "[I" ∈ lw_good := lw_in (i := 356) (by decide +kernel) rfl
theorem w358 : Cond.methodLink RX11 71 yX2_push ∈ lw_good := lw_in (i := 358) (by decide +kernel) rfl
theorem w359 : Cond.instanceMethod yX2_push ∈ lw_good := lw_in (i := 359) (by decide +kernel) rfl
theorem w360 : Cond.selects RX2 yX2_push yX2_push ∈ lw_good := lw_in (i := 360) (by decide +kernel) rfl
theorem w361 : Cond.code yX2_push cX2_push 2 none ∈ lw_good := lw_in (i := 361) (by decide +kernel) rfl
theorem w362 : Cond.methodLink RX2 22 yX2_dropOldest ∈ lw_good := lw_in (i := 362) (by decide +kernel) rfl
theorem w364 : Cond.instanceMethod yX2_dropOldest ∈ lw_good := lw_in (i := 364) (by decide +kernel) rfl
theorem w365 : Cond.code yX2_dropOldest cX2_dropOldest 3 none ∈ lw_good := lw_in (i := 365) (by decide +kernel) rfl
theorem w366 : Cond.methodLink RX2 25 yX7_copyFrom ∈ lw_good := lw_in (i := 366) (by decide +kernel) rfl
theorem w367 : Cond.instanceMethod yX7_copyFrom ∈ lw_good := lw_in (i := 367) (by decide +kernel) rfl
theorem w368 : Cond.selects RX7 yX7_copyFrom yX7_copyFrom ∈ lw_good := lw_in (i := 368) (by decide +kernel) rfl
theorem w369 : Cond.code yX7_copyFrom cX7_copyFrom 3 none ∈ lw_good := lw_in (i := 369) (by decide +kernel) rfl
theorem w371 : Cond.static yX11_copy ∈ lw_good := lw_in (i := 371) (by decide +kernel) rfl
theorem w372 : Cond.code yX11_copy cX11_copy 3 none ∈ lw_good := lw_in (i := 372) (by decide +kernel) rfl
theorem w373 : Cond.methodLink RX7 45 yX9_copyFrom ∈ lw_good := lw_in (i := 373) (by decide +kernel) rfl
theorem w374 : Cond.instanceMethod yX9_copyFrom ∈ lw_good := lw_in (i := 374) (by decide +kernel) rfl
theorem w375 : Cond.selects RX9 yX9_copyFrom yX9_copyFrom ∈ lw_good := lw_in (i := 375) (by decide +kernel) rfl
theorem w376 : Cond.code yX9_copyFrom cX9_copyFrom 2 none ∈ lw_good := lw_in (i := 376) (by decide +kernel) rfl
theorem w378 : Cond.methodLink RX7 49 yX6_copyFrom ∈ lw_good := lw_in (i := 378) (by decide +kernel) rfl
theorem w379 : Cond.instanceMethod yX6_copyFrom ∈ lw_good := lw_in (i := 379) (by decide +kernel) rfl
theorem w380 : Cond.selects RX6 yX6_copyFrom yX6_copyFrom ∈ lw_good := lw_in (i := 380) (by decide +kernel) rfl
theorem w381 : Cond.code yX6_copyFrom cX6_copyFrom 3 none ∈ lw_good := lw_in (i := 381) (by decide +kernel) rfl
theorem w383 : Cond.methodLink RX6 68 yX1_copyFrom ∈ lw_good := lw_in (i := 383) (by decide +kernel) rfl
theorem w384 : Cond.instanceMethod yX1_copyFrom ∈ lw_good := lw_in (i := 384) (by decide +kernel) rfl
theorem w385 : Cond.selects RX1 yX1_copyFrom yX1_copyFrom ∈ lw_good := lw_in (i := 385) (by decide +kernel) rfl
theorem w386 : Cond.code yX1_copyFrom cX1_copyFrom 2 none ∈ lw_good := lw_in (i := 386) (by decide +kernel) rfl
theorem w388 : Cond.methodLink RX6 72 yX0_copyFrom ∈ lw_good := lw_in (i := 388) (by decide +kernel) rfl
theorem w389 : Cond.instanceMethod yX0_copyFrom ∈ lw_good := lw_in (i := 389) (by decide +kernel) rfl
theorem w390 : Cond.selects RX0 yX0_copyFrom yX0_copyFrom ∈ lw_good := lw_in (i := 390) (by decide +kernel) rfl
theorem w391 : Cond.code yX0_copyFrom cX0_copyFrom 2 none ∈ lw_good := lw_in (i := 391) (by decide +kernel) rfl
theorem w393 : Cond.methodLink RL 18 yX11_type ∈ lw_good := lw_in (i := 393) (by decide +kernel) rfl
theorem w394 : Cond.instanceMethod yX11_type ∈ lw_good := lw_in (i := 394) (by decide +kernel) rfl
theorem w395 : Cond.selects RX11 yX11_type yX11_type ∈ lw_good := lw_in (i := 395) (by decide +kernel) rfl
theorem w396 : Cond.code yX11_type cX11_type 4 (some (Jvm.ClassFile.FieldType.int)) ∈ lw_good := lw_in (i := 396) (by decide +kernel) rfl
theorem w397 : Cond.methodLink RX11 82 yX9_isFull ∈ lw_good := lw_in (i := 397) (by decide +kernel) rfl
theorem w398 : Cond.instanceMethod yX9_isFull ∈ lw_good := lw_in (i := 398) (by decide +kernel) rfl
theorem w399 : Cond.selects RX9 yX9_isFull yX9_isFull ∈ lw_good := lw_in (i := 399) (by decide +kernel) rfl
theorem w400 : Cond.code yX9_isFull cX9_isFull 1 (some (Jvm.ClassFile.FieldType.boolean)) ∈ lw_good := lw_in (i := 400) (by decide +kernel) rfl
theorem w401 : Cond.methodLink RX11 88 yX9_add ∈ lw_good := lw_in (i := 401) (by decide +kernel) rfl
theorem w402 : Cond.instanceMethod yX9_add ∈ lw_good := lw_in (i := 402) (by decide +kernel) rfl
theorem w403 : Cond.selects RX9 yX9_add yX9_add ∈ lw_good := lw_in (i := 403) (by decide +kernel) rfl
theorem w404 : Cond.code yX9_add cX9_add 5 (some (Jvm.ClassFile.FieldType.int)) ∈ lw_good := lw_in (i := 404) (by decide +kernel) rfl
theorem w405 : Cond.methodLink RX9 25 yX9_isFull ∈ lw_good := lw_in (i := 405) (by decide +kernel) rfl
theorem w406 : Cond.methodLink RL 23 yX11_days ∈ lw_good := lw_in (i := 406) (by decide +kernel) rfl
theorem w407 : Cond.instanceMethod yX11_days ∈ lw_good := lw_in (i := 407) (by decide +kernel) rfl
theorem w408 : Cond.selects RX11 yX11_days yX11_days ∈ lw_good := lw_in (i := 408) (by decide +kernel) rfl
theorem w409 : Cond.code yX11_days cX11_days 6 (some (Jvm.ClassFile.FieldType.int)) ∈ lw_good := lw_in (i := 409) (by decide +kernel) rfl
theorem w410 : Cond.methodLink RX11 92 yX7_find ∈ lw_good := lw_in (i := 410) (by decide +kernel) rfl
theorem w411 : Cond.instanceMethod yX7_find ∈ lw_good := lw_in (i := 411) (by decide +kernel) rfl
theorem w412 : Cond.selects RX7 yX7_find yX7_find ∈ lw_good := lw_in (i := 412) (by decide +kernel) rfl
theorem w413 : Cond.code yX7_find cX7_find 2 (some ((Jvm.ClassFile.FieldType.object "PhaseLights$Premiere"))) ∈ lw_good := lw_in (i := 413) (by decide +kernel) rfl
theorem w415 : Cond.methodLink RX11 96 yX11_areDays ∈ lw_good := lw_in (i := 415) (by decide +kernel) rfl
theorem w416 : Cond.static yX11_areDays ∈ lw_good := lw_in (i := 416) (by decide +kernel) rfl
theorem w417 : Cond.code yX11_areDays cX11_areDays 2 (some (Jvm.ClassFile.FieldType.boolean)) ∈ lw_good := lw_in (i := 417) (by decide +kernel) rfl
theorem w418 : Cond.methodLink RL 27 yX11_hang ∈ lw_good := lw_in (i := 418) (by decide +kernel) rfl
theorem w419 : Cond.instanceMethod yX11_hang ∈ lw_good := lw_in (i := 419) (by decide +kernel) rfl
theorem w420 : Cond.selects RX11 yX11_hang yX11_hang ∈ lw_good := lw_in (i := 420) (by decide +kernel) rfl
theorem w421 : Cond.code yX11_hang cX11_hang 5 (some (Jvm.ClassFile.FieldType.int)) ∈ lw_good := lw_in (i := 421) (by decide +kernel) rfl
theorem w422 : Cond.methodLink RX11 109 yX9_has ∈ lw_good := lw_in (i := 422) (by decide +kernel) rfl
theorem w423 : Cond.instanceMethod yX9_has ∈ lw_good := lw_in (i := 423) (by decide +kernel) rfl
theorem w424 : Cond.selects RX9 yX9_has yX9_has ∈ lw_good := lw_in (i := 424) (by decide +kernel) rfl
theorem w425 : Cond.code yX9_has cX9_has 2 (some (Jvm.ClassFile.FieldType.boolean)) ∈ lw_good := lw_in (i := 425) (by decide +kernel) rfl
theorem w426 : Cond.methodLink RX11 113 yX11_isDimmerOrNone ∈ lw_good := lw_in (i := 426) (by decide +kernel) rfl
theorem w427 : Cond.static yX11_isDimmerOrNone ∈ lw_good := lw_in (i := 427) (by decide +kernel) rfl
theorem w428 : Cond.code yX11_isDimmerOrNone cX11_isDimmerOrNone 1 (some (Jvm.ClassFile.FieldType.boolean)) ∈ lw_good := lw_in (i := 428) (by decide +kernel) rfl
theorem w429 : Cond.methodLink RX11 131 yX11_isDimmer ∈ lw_good := lw_in (i := 429) (by decide +kernel) rfl
theorem w430 : Cond.static yX11_isDimmer ∈ lw_good := lw_in (i := 430) (by decide +kernel) rfl
theorem w431 : Cond.code yX11_isDimmer cX11_isDimmer 1 (some (Jvm.ClassFile.FieldType.boolean)) ∈ lw_good := lw_in (i := 431) (by decide +kernel) rfl
theorem w432 : Cond.methodLink RX11 116 yX6_isFull ∈ lw_good := lw_in (i := 432) (by decide +kernel) rfl
theorem w433 : Cond.instanceMethod yX6_isFull ∈ lw_good := lw_in (i := 433) (by decide +kernel) rfl
theorem w434 : Cond.selects RX6 yX6_isFull yX6_isFull ∈ lw_good := lw_in (i := 434) (by decide +kernel) rfl
theorem w435 : Cond.code yX6_isFull cX6_isFull 1 (some (Jvm.ClassFile.FieldType.boolean)) ∈ lw_good := lw_in (i := 435) (by decide +kernel) rfl
theorem w436 : Cond.methodLink RX11 117 yX6_addLamp ∈ lw_good := lw_in (i := 436) (by decide +kernel) rfl
theorem w437 : Cond.instanceMethod yX6_addLamp ∈ lw_good := lw_in (i := 437) (by decide +kernel) rfl
theorem w438 : Cond.selects RX6 yX6_addLamp yX6_addLamp ∈ lw_good := lw_in (i := 438) (by decide +kernel) rfl
theorem w439 : Cond.code yX6_addLamp cX6_addLamp 4 (some (Jvm.ClassFile.FieldType.int)) ∈ lw_good := lw_in (i := 439) (by decide +kernel) rfl
theorem w440 : Cond.methodLink RX6 79 yX6_isFull ∈ lw_good := lw_in (i := 440) (by decide +kernel) rfl
theorem w441 : Cond.methodLink RL 31 yX11_takeDown ∈ lw_good := lw_in (i := 441) (by decide +kernel) rfl
theorem w442 : Cond.instanceMethod yX11_takeDown ∈ lw_good := lw_in (i := 442) (by decide +kernel) rfl
theorem w443 : Cond.selects RX11 yX11_takeDown yX11_takeDown ∈ lw_good := lw_in (i := 443) (by decide +kernel) rfl
theorem w444 : Cond.code yX11_takeDown cX11_takeDown 4 (some (Jvm.ClassFile.FieldType.int)) ∈ lw_good := lw_in (i := 444) (by decide +kernel) rfl
theorem w445 : Cond.methodLink RX11 121 yX6_hasLamp ∈ lw_good := lw_in (i := 445) (by decide +kernel) rfl
theorem w446 : Cond.instanceMethod yX6_hasLamp ∈ lw_good := lw_in (i := 446) (by decide +kernel) rfl
theorem w447 : Cond.selects RX6 yX6_hasLamp yX6_hasLamp ∈ lw_good := lw_in (i := 447) (by decide +kernel) rfl
theorem w448 : Cond.code yX6_hasLamp cX6_hasLamp 2 (some (Jvm.ClassFile.FieldType.boolean)) ∈ lw_good := lw_in (i := 448) (by decide +kernel) rfl
theorem w449 : Cond.methodLink RX11 124 yX6_removeLamp ∈ lw_good := lw_in (i := 449) (by decide +kernel) rfl
theorem w450 : Cond.instanceMethod yX6_removeLamp ∈ lw_good := lw_in (i := 450) (by decide +kernel) rfl
theorem w451 : Cond.selects RX6 yX6_removeLamp yX6_removeLamp ∈ lw_good := lw_in (i := 451) (by decide +kernel) rfl
theorem w452 : Cond.code yX6_removeLamp cX6_removeLamp 6 (some (Jvm.ClassFile.FieldType.int)) ∈ lw_good := lw_in (i := 452) (by decide +kernel) rfl
theorem w453 : Cond.methodLink RX6 83 yX6_hasLamp ∈ lw_good := lw_in (i := 453) (by decide +kernel) rfl
theorem w455 : Cond.static yX11_closeGap ∈ lw_good := lw_in (i := 455) (by decide +kernel) rfl
theorem w456 : Cond.code yX11_closeGap cX11_closeGap 3 none ∈ lw_good := lw_in (i := 456) (by decide +kernel) rfl
theorem w457 : Cond.methodLink RX11 344 yJ9_max_7cf53 ∈ lw_good := lw_in (i := 457) (by decide +kernel) rfl
theorem w458 : Cond.static yJ9_max_7cf53 ∈ lw_good := lw_in (i := 458) (by decide +kernel) rfl
theorem w459 : Cond.code yJ9_max_7cf53 cJ9_max_7cf53 2 (some (Jvm.ClassFile.FieldType.int)) ∈ lw_good := lw_in (i := 459) (by decide +kernel) rfl
theorem w460 : Cond.methodLink RX6 91 yX1_removeLamp ∈ lw_good := lw_in (i := 460) (by decide +kernel) rfl
theorem w461 : Cond.instanceMethod yX1_removeLamp ∈ lw_good := lw_in (i := 461) (by decide +kernel) rfl
theorem w462 : Cond.selects RX1 yX1_removeLamp yX1_removeLamp ∈ lw_good := lw_in (i := 462) (by decide +kernel) rfl
theorem w463 : Cond.code yX1_removeLamp cX1_removeLamp 2 none ∈ lw_good := lw_in (i := 463) (by decide +kernel) rfl
theorem w465 : Cond.methodLink RL 35 yX11_patch ∈ lw_good := lw_in (i := 465) (by decide +kernel) rfl
theorem w466 : Cond.instanceMethod yX11_patch ∈ lw_good := lw_in (i := 466) (by decide +kernel) rfl
theorem w467 : Cond.selects RX11 yX11_patch yX11_patch ∈ lw_good := lw_in (i := 467) (by decide +kernel) rfl
theorem w468 : Cond.code yX11_patch cX11_patch 6 (some (Jvm.ClassFile.FieldType.int)) ∈ lw_good := lw_in (i := 468) (by decide +kernel) rfl
theorem w469 : Cond.methodLink RL 39 yX11_feed ∈ lw_good := lw_in (i := 469) (by decide +kernel) rfl
theorem w470 : Cond.instanceMethod yX11_feed ∈ lw_good := lw_in (i := 470) (by decide +kernel) rfl
theorem w471 : Cond.selects RX11 yX11_feed yX11_feed ∈ lw_good := lw_in (i := 471) (by decide +kernel) rfl
theorem w472 : Cond.code yX11_feed cX11_feed 6 (some (Jvm.ClassFile.FieldType.int)) ∈ lw_good := lw_in (i := 472) (by decide +kernel) rfl
theorem w473 : Cond.methodLink RX11 134 yX11_isPhase ∈ lw_good := lw_in (i := 473) (by decide +kernel) rfl
theorem w474 : Cond.static yX11_isPhase ∈ lw_good := lw_in (i := 474) (by decide +kernel) rfl
theorem w475 : Cond.code yX11_isPhase cX11_isPhase 1 (some (Jvm.ClassFile.FieldType.boolean)) ∈ lw_good := lw_in (i := 475) (by decide +kernel) rfl
theorem w476 : Cond.methodLink RL 43 yX11_spread ∈ lw_good := lw_in (i := 476) (by decide +kernel) rfl
theorem w477 : Cond.instanceMethod yX11_spread ∈ lw_good := lw_in (i := 477) (by decide +kernel) rfl
theorem w478 : Cond.selects RX11 yX11_spread yX11_spread ∈ lw_good := lw_in (i := 478) (by decide +kernel) rfl
theorem w479 : Cond.code yX11_spread cX11_spread 3 (some (Jvm.ClassFile.FieldType.int)) ∈ lw_good := lw_in (i := 479) (by decide +kernel) rfl
theorem w480 : Cond.methodLink RX11 140 yX10_measure ∈ lw_good := lw_in (i := 480) (by decide +kernel) rfl
theorem w481 : Cond.instanceMethod yX10_measure ∈ lw_good := lw_in (i := 481) (by decide +kernel) rfl
theorem w482 : Cond.selects RX10 yX10_measure yX10_measure ∈ lw_good := lw_in (i := 482) (by decide +kernel) rfl
theorem w483 : Cond.code yX10_measure cX10_measure 4 none ∈ lw_good := lw_in (i := 483) (by decide +kernel) rfl
theorem w484 : Cond.methodLink RX10 21 yX3_empty ∈ lw_good := lw_in (i := 484) (by decide +kernel) rfl
theorem w485 : Cond.instanceMethod yX3_empty ∈ lw_good := lw_in (i := 485) (by decide +kernel) rfl
theorem w486 : Cond.selects RX3 yX3_empty yX3_empty ∈ lw_good := lw_in (i := 486) (by decide +kernel) rfl
theorem w487 : Cond.code yX3_empty cX3_empty 1 none ∈ lw_good := lw_in (i := 487) (by decide +kernel) rfl
theorem w489 : Cond.static yX11_clear ∈ lw_good := lw_in (i := 489) (by decide +kernel) rfl
theorem w490 : Cond.code yX11_clear cX11_clear 2 none ∈ lw_good := lw_in (i := 490) (by decide +kernel) rfl
theorem w491 : Cond.methodLink RX10 24 yX3_measureCue ∈ lw_good := lw_in (i := 491) (by decide +kernel) rfl
theorem w492 : Cond.instanceMethod yX3_measureCue ∈ lw_good := lw_in (i := 492) (by decide +kernel) rfl
theorem w493 : Cond.selects RX3 yX3_measureCue yX3_measureCue ∈ lw_good := lw_in (i := 493) (by decide +kernel) rfl
theorem w494 : Cond.code yX3_measureCue cX3_measureCue 5 none ∈ lw_good := lw_in (i := 494) (by decide +kernel) rfl
theorem w495 : Cond.methodLink RX3 18 yX3_empty ∈ lw_good := lw_in (i := 495) (by decide +kernel) rfl
theorem w496 : Cond.methodLink RX3 35 yX6_isRecorded ∈ lw_good := lw_in (i := 496) (by decide +kernel) rfl
theorem w497 : Cond.instanceMethod yX6_isRecorded ∈ lw_good := lw_in (i := 497) (by decide +kernel) rfl
theorem w498 : Cond.selects RX6 yX6_isRecorded yX6_isRecorded ∈ lw_good := lw_in (i := 498) (by decide +kernel) rfl
theorem w499 : Cond.code yX6_isRecorded cX6_isRecorded 2 (some (Jvm.ClassFile.FieldType.boolean)) ∈ lw_good := lw_in (i := 499) (by decide +kernel) rfl
theorem w501 : Cond.static yX11_isCue ∈ lw_good := lw_in (i := 501) (by decide +kernel) rfl
theorem w502 : Cond.code yX11_isCue cX11_isCue 1 (some (Jvm.ClassFile.FieldType.boolean)) ∈ lw_good := lw_in (i := 502) (by decide +kernel) rfl
theorem w503 : Cond.methodLink RX3 43 yX6_draw ∈ lw_good := lw_in (i := 503) (by decide +kernel) rfl
theorem w504 : Cond.instanceMethod yX6_draw ∈ lw_good := lw_in (i := 504) (by decide +kernel) rfl
theorem w505 : Cond.selects RX6 yX6_draw yX6_draw ∈ lw_good := lw_in (i := 505) (by decide +kernel) rfl
theorem w506 : Cond.code yX6_draw cX6_draw 4 (some (Jvm.ClassFile.FieldType.int)) ∈ lw_good := lw_in (i := 506) (by decide +kernel) rfl
theorem w507 : Cond.methodLink RX6 144 yX9_wattsOf ∈ lw_good := lw_in (i := 507) (by decide +kernel) rfl
theorem w508 : Cond.instanceMethod yX9_wattsOf ∈ lw_good := lw_in (i := 508) (by decide +kernel) rfl
theorem w509 : Cond.selects RX9 yX9_wattsOf yX9_wattsOf ∈ lw_good := lw_in (i := 509) (by decide +kernel) rfl
theorem w510 : Cond.code yX9_wattsOf cX9_wattsOf 2 (some (Jvm.ClassFile.FieldType.int)) ∈ lw_good := lw_in (i := 510) (by decide +kernel) rfl
theorem w511 : Cond.methodLink RX3 31 yX3_add ∈ lw_good := lw_in (i := 511) (by decide +kernel) rfl
theorem w513 : Cond.instanceMethod yX3_add ∈ lw_good := lw_in (i := 513) (by decide +kernel) rfl
theorem w514 : Cond.code yX3_add cX3_add 6 none ∈ lw_good := lw_in (i := 514) (by decide +kernel) rfl
theorem w515 : Cond.methodLink RX3 51 yX6_dimmerOf ∈ lw_good := lw_in (i := 515) (by decide +kernel) rfl
theorem w516 : Cond.instanceMethod yX6_dimmerOf ∈ lw_good := lw_in (i := 516) (by decide +kernel) rfl
theorem w517 : Cond.selects RX6 yX6_dimmerOf yX6_dimmerOf ∈ lw_good := lw_in (i := 517) (by decide +kernel) rfl
theorem w518 : Cond.code yX6_dimmerOf cX6_dimmerOf 2 (some (Jvm.ClassFile.FieldType.int)) ∈ lw_good := lw_in (i := 518) (by decide +kernel) rfl
theorem w519 : Cond.methodLink RX3 55 yX6_phaseOf ∈ lw_good := lw_in (i := 519) (by decide +kernel) rfl
theorem w520 : Cond.instanceMethod yX6_phaseOf ∈ lw_good := lw_in (i := 520) (by decide +kernel) rfl
theorem w521 : Cond.selects RX6 yX6_phaseOf yX6_phaseOf ∈ lw_good := lw_in (i := 521) (by decide +kernel) rfl
theorem w522 : Cond.code yX6_phaseOf cX6_phaseOf 2 (some (Jvm.ClassFile.FieldType.int)) ∈ lw_good := lw_in (i := 522) (by decide +kernel) rfl
theorem w526 : Cond.static yX11_raise ∈ lw_good := lw_in (i := 526) (by decide +kernel) rfl
theorem w527 : Cond.code yX11_raise cX11_raise 3 none ∈ lw_good := lw_in (i := 527) (by decide +kernel) rfl
theorem w528 : Cond.methodLink RX11 151 yX6_spreadDimmers ∈ lw_good := lw_in (i := 528) (by decide +kernel) rfl
theorem w529 : Cond.instanceMethod yX6_spreadDimmers ∈ lw_good := lw_in (i := 529) (by decide +kernel) rfl
theorem w530 : Cond.selects RX6 yX6_spreadDimmers yX6_spreadDimmers ∈ lw_good := lw_in (i := 530) (by decide +kernel) rfl
theorem w531 : Cond.code yX6_spreadDimmers cX6_spreadDimmers 8 (some (Jvm.ClassFile.FieldType.int)) ∈ lw_good := lw_in (i := 531) (by decide +kernel) rfl
theorem w533 : Cond.methodLink RX6 162 yX6_heaviestLeft ∈ lw_good := lw_in (i := 533) (by decide +kernel) rfl
theorem w534 : Cond.static yX6_heaviestLeft ∈ lw_good := lw_in (i := 534) (by decide +kernel) rfl
theorem w535 : Cond.code yX6_heaviestLeft cX6_heaviestLeft 5 (some (Jvm.ClassFile.FieldType.int)) ∈ lw_good := lw_in (i := 535) (by decide +kernel) rfl
theorem w537 : Cond.static yX11_hasBit ∈ lw_good := lw_in (i := 537) (by decide +kernel) rfl
theorem w538 : Cond.code yX11_hasBit cX11_hasBit 2 (some (Jvm.ClassFile.FieldType.boolean)) ∈ lw_good := lw_in (i := 538) (by decide +kernel) rfl
theorem w539 : Cond.methodLink RX6 166 yX6_lightest ∈ lw_good := lw_in (i := 539) (by decide +kernel) rfl
theorem w540 : Cond.static yX6_lightest ∈ lw_good := lw_in (i := 540) (by decide +kernel) rfl
theorem w541 : Cond.code yX6_lightest cX6_lightest 3 (some (Jvm.ClassFile.FieldType.int)) ∈ lw_good := lw_in (i := 541) (by decide +kernel) rfl
theorem w542 : Cond.methodLink RL 48 yX11_at ∈ lw_good := lw_in (i := 542) (by decide +kernel) rfl
theorem w543 : Cond.instanceMethod yX11_at ∈ lw_good := lw_in (i := 543) (by decide +kernel) rfl
theorem w544 : Cond.selects RX11 yX11_at yX11_at ∈ lw_good := lw_in (i := 544) (by decide +kernel) rfl
theorem w545 : Cond.code yX11_at cX11_at 6 (some (Jvm.ClassFile.FieldType.int)) ∈ lw_good := lw_in (i := 545) (by decide +kernel) rfl
theorem w546 : Cond.methodLink RL 52 yX11_record ∈ lw_good := lw_in (i := 546) (by decide +kernel) rfl
theorem w547 : Cond.instanceMethod yX11_record ∈ lw_good := lw_in (i := 547) (by decide +kernel) rfl
theorem w548 : Cond.selects RX11 yX11_record yX11_record ∈ lw_good := lw_in (i := 548) (by decide +kernel) rfl
theorem w549 : Cond.code yX11_record cX11_record 5 (some (Jvm.ClassFile.FieldType.int)) ∈ lw_good := lw_in (i := 549) (by decide +kernel) rfl
theorem w550 : Cond.methodLink RX11 158 yX11_isCue ∈ lw_good := lw_in (i := 550) (by decide +kernel) rfl
theorem w551 : Cond.methodLink RX11 161 yX6_recordCue ∈ lw_good := lw_in (i := 551) (by decide +kernel) rfl
theorem w552 : Cond.instanceMethod yX6_recordCue ∈ lw_good := lw_in (i := 552) (by decide +kernel) rfl
theorem w553 : Cond.selects RX6 yX6_recordCue yX6_recordCue ∈ lw_good := lw_in (i := 553) (by decide +kernel) rfl
theorem w554 : Cond.code yX6_recordCue cX6_recordCue 3 none ∈ lw_good := lw_in (i := 554) (by decide +kernel) rfl
theorem w555 : Cond.methodLink RX11 165 yX6_recordedCues ∈ lw_good := lw_in (i := 555) (by decide +kernel) rfl
theorem w556 : Cond.instanceMethod yX6_recordedCues ∈ lw_good := lw_in (i := 556) (by decide +kernel) rfl
theorem w557 : Cond.selects RX6 yX6_recordedCues yX6_recordedCues ∈ lw_good := lw_in (i := 557) (by decide +kernel) rfl
theorem w558 : Cond.code yX6_recordedCues cX6_recordedCues 3 (some (Jvm.ClassFile.FieldType.int)) ∈ lw_good := lw_in (i := 558) (by decide +kernel) rfl
theorem w559 : Cond.methodLink RX6 98 yX6_isRecorded ∈ lw_good := lw_in (i := 559) (by decide +kernel) rfl
theorem w560 : Cond.methodLink RX11 169 yJ6_bitCount_0f7a4 ∈ lw_good := lw_in (i := 560) (by decide +kernel) rfl
theorem w561 : Cond.static yJ6_bitCount_0f7a4 ∈ lw_good := lw_in (i := 561) (by decide +kernel) rfl
theorem w562 : Cond.code yJ6_bitCount_0f7a4 cJ6_bitCount_0f7a4 1 (some (Jvm.ClassFile.FieldType.int)) ∈ lw_good := lw_in (i := 562) (by decide +kernel) rfl
theorem w563 : Cond.constant RJ6 265 1431655765 ∈ lw_good := lw_in (i := 563) (by decide +kernel) rfl
theorem w564 : Cond.constant RJ6 266 858993459 ∈ lw_good := lw_in (i := 564) (by decide +kernel) rfl
theorem w565 : Cond.constant RJ6 267 252645135 ∈ lw_good := lw_in (i := 565) (by decide +kernel) rfl
theorem w566 : Cond.methodLink RL 56 yX11_go ∈ lw_good := lw_in (i := 566) (by decide +kernel) rfl
theorem w567 : Cond.instanceMethod yX11_go ∈ lw_good := lw_in (i := 567) (by decide +kernel) rfl
theorem w568 : Cond.selects RX11 yX11_go yX11_go ∈ lw_good := lw_in (i := 568) (by decide +kernel) rfl
theorem w569 : Cond.code yX11_go cX11_go 4 (some (Jvm.ClassFile.FieldType.int)) ∈ lw_good := lw_in (i := 569) (by decide +kernel) rfl
theorem w570 : Cond.methodLink RX11 174 yX6_isRecorded ∈ lw_good := lw_in (i := 570) (by decide +kernel) rfl
theorem w571 : Cond.methodLink RX11 180 yX6_startCue ∈ lw_good := lw_in (i := 571) (by decide +kernel) rfl
theorem w572 : Cond.instanceMethod yX6_startCue ∈ lw_good := lw_in (i := 572) (by decide +kernel) rfl
theorem w573 : Cond.selects RX6 yX6_startCue yX6_startCue ∈ lw_good := lw_in (i := 573) (by decide +kernel) rfl
theorem w574 : Cond.code yX6_startCue cX6_startCue 3 none ∈ lw_good := lw_in (i := 574) (by decide +kernel) rfl
theorem w575 : Cond.methodLink RX6 101 yX1_start ∈ lw_good := lw_in (i := 575) (by decide +kernel) rfl
theorem w576 : Cond.instanceMethod yX1_start ∈ lw_good := lw_in (i := 576) (by decide +kernel) rfl
theorem w577 : Cond.selects RX1 yX1_start yX1_start ∈ lw_good := lw_in (i := 577) (by decide +kernel) rfl
theorem w578 : Cond.code yX1_start cX1_start 4 none ∈ lw_good := lw_in (i := 578) (by decide +kernel) rfl
theorem w579 : Cond.methodLink RL 60 yX11_reset ∈ lw_good := lw_in (i := 579) (by decide +kernel) rfl
theorem w580 : Cond.instanceMethod yX11_reset ∈ lw_good := lw_in (i := 580) (by decide +kernel) rfl
theorem w581 : Cond.selects RX11 yX11_reset yX11_reset ∈ lw_good := lw_in (i := 581) (by decide +kernel) rfl
theorem w582 : Cond.code yX11_reset cX11_reset 3 (some (Jvm.ClassFile.FieldType.int)) ∈ lw_good := lw_in (i := 582) (by decide +kernel) rfl
theorem w583 : Cond.methodLink RX11 183 yX6_clearTrips ∈ lw_good := lw_in (i := 583) (by decide +kernel) rfl
theorem w584 : Cond.instanceMethod yX6_clearTrips ∈ lw_good := lw_in (i := 584) (by decide +kernel) rfl
theorem w585 : Cond.selects RX6 yX6_clearTrips yX6_clearTrips ∈ lw_good := lw_in (i := 585) (by decide +kernel) rfl
theorem w586 : Cond.code yX6_clearTrips cX6_clearTrips 1 (some (Jvm.ClassFile.FieldType.int)) ∈ lw_good := lw_in (i := 586) (by decide +kernel) rfl
theorem w587 : Cond.methodLink RX6 105 yX0_clearTrips ∈ lw_good := lw_in (i := 587) (by decide +kernel) rfl
theorem w588 : Cond.instanceMethod yX0_clearTrips ∈ lw_good := lw_in (i := 588) (by decide +kernel) rfl
theorem w589 : Cond.selects RX0 yX0_clearTrips yX0_clearTrips ∈ lw_good := lw_in (i := 589) (by decide +kernel) rfl
theorem w590 : Cond.code yX0_clearTrips cX0_clearTrips 2 (some (Jvm.ClassFile.FieldType.int)) ∈ lw_good := lw_in (i := 590) (by decide +kernel) rfl
theorem w591 : Cond.methodLink RX0 17 yJ6_bitCount_0f7a4 ∈ lw_good := lw_in (i := 591) (by decide +kernel) rfl
theorem w593 : Cond.methodLink RL 64 yX11_tick ∈ lw_good := lw_in (i := 593) (by decide +kernel) rfl
theorem w594 : Cond.instanceMethod yX11_tick ∈ lw_good := lw_in (i := 594) (by decide +kernel) rfl
theorem w595 : Cond.selects RX11 yX11_tick yX11_tick ∈ lw_good := lw_in (i := 595) (by decide +kernel) rfl
theorem w596 : Cond.code yX11_tick cX11_tick 8 (some (Jvm.ClassFile.FieldType.int)) ∈ lw_good := lw_in (i := 596) (by decide +kernel) rfl
theorem w597 : Cond.methodLink RX11 190 yX6_passTick ∈ lw_good := lw_in (i := 597) (by decide +kernel) rfl
theorem w598 : Cond.instanceMethod yX6_passTick ∈ lw_good := lw_in (i := 598) (by decide +kernel) rfl
theorem w599 : Cond.selects RX6 yX6_passTick yX6_passTick ∈ lw_good := lw_in (i := 599) (by decide +kernel) rfl
theorem w600 : Cond.code yX6_passTick cX6_passTick 6 (some (Jvm.ClassFile.FieldType.int)) ∈ lw_good := lw_in (i := 600) (by decide +kernel) rfl
theorem w601 : Cond.methodLink RX6 114 yX1_step ∈ lw_good := lw_in (i := 601) (by decide +kernel) rfl
theorem w602 : Cond.instanceMethod yX1_step ∈ lw_good := lw_in (i := 602) (by decide +kernel) rfl
theorem w603 : Cond.selects RX1 yX1_step yX1_step ∈ lw_good := lw_in (i := 603) (by decide +kernel) rfl
theorem w604 : Cond.code yX1_step cX1_step 3 none ∈ lw_good := lw_in (i := 604) (by decide +kernel) rfl
theorem w605 : Cond.methodLink RX6 121 yX3_measureNow ∈ lw_good := lw_in (i := 605) (by decide +kernel) rfl
theorem w606 : Cond.instanceMethod yX3_measureNow ∈ lw_good := lw_in (i := 606) (by decide +kernel) rfl
theorem w607 : Cond.selects RX3 yX3_measureNow yX3_measureNow ∈ lw_good := lw_in (i := 607) (by decide +kernel) rfl
theorem w608 : Cond.code yX3_measureNow cX3_measureNow 4 none ∈ lw_good := lw_in (i := 608) (by decide +kernel) rfl
theorem w609 : Cond.methodLink RX3 27 yX6_loadOfLamp ∈ lw_good := lw_in (i := 609) (by decide +kernel) rfl
theorem w610 : Cond.instanceMethod yX6_loadOfLamp ∈ lw_good := lw_in (i := 610) (by decide +kernel) rfl
theorem w611 : Cond.selects RX6 yX6_loadOfLamp yX6_loadOfLamp ∈ lw_good := lw_in (i := 611) (by decide +kernel) rfl
theorem w612 : Cond.code yX6_loadOfLamp cX6_loadOfLamp 3 (some (Jvm.ClassFile.FieldType.int)) ∈ lw_good := lw_in (i := 612) (by decide +kernel) rfl
theorem w613 : Cond.methodLink RX6 137 yX6_isFed ∈ lw_good := lw_in (i := 613) (by decide +kernel) rfl
theorem w615 : Cond.instanceMethod yX6_isFed ∈ lw_good := lw_in (i := 615) (by decide +kernel) rfl
theorem w616 : Cond.code yX6_isFed cX6_isFed 3 (some (Jvm.ClassFile.FieldType.boolean)) ∈ lw_good := lw_in (i := 616) (by decide +kernel) rfl
theorem w617 : Cond.methodLink RX6 150 yX6_dimmerOf ∈ lw_good := lw_in (i := 617) (by decide +kernel) rfl
theorem w618 : Cond.methodLink RX6 153 yX0_hasTripped ∈ lw_good := lw_in (i := 618) (by decide +kernel) rfl
theorem w619 : Cond.instanceMethod yX0_hasTripped ∈ lw_good := lw_in (i := 619) (by decide +kernel) rfl
theorem w620 : Cond.selects RX0 yX0_hasTripped yX0_hasTripped ∈ lw_good := lw_in (i := 620) (by decide +kernel) rfl
theorem w621 : Cond.code yX0_hasTripped cX0_hasTripped 2 (some (Jvm.ClassFile.FieldType.boolean)) ∈ lw_good := lw_in (i := 621) (by decide +kernel) rfl
theorem w622 : Cond.methodLink RX6 156 yX6_phaseOf ∈ lw_good := lw_in (i := 622) (by decide +kernel) rfl
theorem w623 : Cond.methodLink RX6 140 yX6_draw ∈ lw_good := lw_in (i := 623) (by decide +kernel) rfl
theorem w624 : Cond.methodLink RX6 130 yX0_check ∈ lw_good := lw_in (i := 624) (by decide +kernel) rfl
theorem w625 : Cond.instanceMethod yX0_check ∈ lw_good := lw_in (i := 625) (by decide +kernel) rfl
theorem w626 : Cond.selects RX0 yX0_check yX0_check ∈ lw_good := lw_in (i := 626) (by decide +kernel) rfl
theorem w627 : Cond.code yX0_check cX0_check 6 (some (Jvm.ClassFile.FieldType.int)) ∈ lw_good := lw_in (i := 627) (by decide +kernel) rfl
theorem w628 : Cond.methodLink RL 68 yX11_carryOut ∈ lw_good := lw_in (i := 628) (by decide +kernel) rfl
theorem w629 : Cond.instanceMethod yX11_carryOut ∈ lw_good := lw_in (i := 629) (by decide +kernel) rfl
theorem w630 : Cond.selects RX11 yX11_carryOut yX11_carryOut ∈ lw_good := lw_in (i := 630) (by decide +kernel) rfl
theorem w631 : Cond.code yX11_carryOut cX11_carryOut 3 (some (Jvm.ClassFile.FieldType.int)) ∈ lw_good := lw_in (i := 631) (by decide +kernel) rfl
theorem w632 : Cond.methodLink RX11 194 yX4_read ∈ lw_good := lw_in (i := 632) (by decide +kernel) rfl
theorem w633 : Cond.instanceMethod yX4_read ∈ lw_good := lw_in (i := 633) (by decide +kernel) rfl
theorem w634 : Cond.selects RX4 yX4_read yX4_read ∈ lw_good := lw_in (i := 634) (by decide +kernel) rfl
theorem w635 : Cond.code yX4_read cX4_read 2 (some (Jvm.ClassFile.FieldType.boolean)) ∈ lw_good := lw_in (i := 635) (by decide +kernel) rfl
theorem w636 : Cond.methodLink RX4 44 yX4_stepTo ∈ lw_good := lw_in (i := 636) (by decide +kernel) rfl
theorem w638 : Cond.instanceMethod yX4_stepTo ∈ lw_good := lw_in (i := 638) (by decide +kernel) rfl
theorem w639 : Cond.code yX4_stepTo cX4_stepTo 2 none ∈ lw_good := lw_in (i := 639) (by decide +kernel) rfl
theorem w640 : Cond.methodLink RX4 48 yX4_readOrder ∈ lw_good := lw_in (i := 640) (by decide +kernel) rfl
theorem w642 : Cond.instanceMethod yX4_readOrder ∈ lw_good := lw_in (i := 642) (by decide +kernel) rfl
theorem w643 : Cond.code yX4_readOrder cX4_readOrder 1 (some (Jvm.ClassFile.FieldType.boolean)) ∈ lw_good := lw_in (i := 643) (by decide +kernel) rfl
theorem w644 : Cond.methodLink RX4 58 yX4_take ∈ lw_good := lw_in (i := 644) (by decide +kernel) rfl
theorem w646 : Cond.instanceMethod yX4_take ∈ lw_good := lw_in (i := 646) (by decide +kernel) rfl
theorem w647 : Cond.code yX4_take cX4_take 2 (some (Jvm.ClassFile.FieldType.boolean)) ∈ lw_good := lw_in (i := 647) (by decide +kernel) rfl
theorem w648 : Cond.methodLink RX4 62 yX4_readRecord ∈ lw_good := lw_in (i := 648) (by decide +kernel) rfl
theorem w650 : Cond.instanceMethod yX4_readRecord ∈ lw_good := lw_in (i := 650) (by decide +kernel) rfl
theorem w651 : Cond.code yX4_readRecord cX4_readRecord 3 (some (Jvm.ClassFile.FieldType.boolean)) ∈ lw_good := lw_in (i := 651) (by decide +kernel) rfl
theorem w652 : Cond.methodLink RX4 75 yX4_readNumber ∈ lw_good := lw_in (i := 652) (by decide +kernel) rfl
theorem w654 : Cond.instanceMethod yX4_readNumber ∈ lw_good := lw_in (i := 654) (by decide +kernel) rfl
theorem w655 : Cond.code yX4_readNumber cX4_readNumber 6 (some (Jvm.ClassFile.FieldType.int)) ∈ lw_good := lw_in (i := 655) (by decide +kernel) rfl
theorem w656 : Cond.methodLink RX4 82 yX4_digitHere ∈ lw_good := lw_in (i := 656) (by decide +kernel) rfl
theorem w658 : Cond.instanceMethod yX4_digitHere ∈ lw_good := lw_in (i := 658) (by decide +kernel) rfl
theorem w659 : Cond.code yX4_digitHere cX4_digitHere 1 (some (Jvm.ClassFile.FieldType.int)) ∈ lw_good := lw_in (i := 659) (by decide +kernel) rfl
theorem w660 : Cond.methodLink RX4 68 yX4_note ∈ lw_good := lw_in (i := 660) (by decide +kernel) rfl
theorem w662 : Cond.instanceMethod yX4_note ∈ lw_good := lw_in (i := 662) (by decide +kernel) rfl
theorem w663 : Cond.code yX4_note cX4_note 4 (some (Jvm.ClassFile.FieldType.boolean)) ∈ lw_good := lw_in (i := 663) (by decide +kernel) rfl
theorem w664 : Cond.methodLink RX4 65 yX4_readGo ∈ lw_good := lw_in (i := 664) (by decide +kernel) rfl
theorem w666 : Cond.instanceMethod yX4_readGo ∈ lw_good := lw_in (i := 666) (by decide +kernel) rfl
theorem w667 : Cond.code yX4_readGo cX4_readGo 2 (some (Jvm.ClassFile.FieldType.boolean)) ∈ lw_good := lw_in (i := 667) (by decide +kernel) rfl
theorem w668 : Cond.methodLink RX4 72 yX4_readLevels ∈ lw_good := lw_in (i := 668) (by decide +kernel) rfl
theorem w670 : Cond.instanceMethod yX4_readLevels ∈ lw_good := lw_in (i := 670) (by decide +kernel) rfl
theorem w671 : Cond.code yX4_readLevels cX4_readLevels 3 (some (Jvm.ClassFile.FieldType.boolean)) ∈ lw_good := lw_in (i := 671) (by decide +kernel) rfl
theorem w672 : Cond.methodLink RX4 79 yX4_readSpan ∈ lw_good := lw_in (i := 672) (by decide +kernel) rfl
theorem w674 : Cond.instanceMethod yX4_readSpan ∈ lw_good := lw_in (i := 674) (by decide +kernel) rfl
theorem w675 : Cond.code yX4_readSpan cX4_readSpan 3 (some (Jvm.ClassFile.FieldType.boolean)) ∈ lw_good := lw_in (i := 675) (by decide +kernel) rfl
theorem w676 : Cond.methodLink RX11 202 yX4_carryAllOut ∈ lw_good := lw_in (i := 676) (by decide +kernel) rfl
theorem w677 : Cond.instanceMethod yX4_carryAllOut ∈ lw_good := lw_in (i := 677) (by decide +kernel) rfl
theorem w678 : Cond.selects RX4 yX4_carryAllOut yX4_carryAllOut ∈ lw_good := lw_in (i := 678) (by decide +kernel) rfl
theorem w679 : Cond.code yX4_carryAllOut cX4_carryAllOut 3 (some (Jvm.ClassFile.FieldType.int)) ∈ lw_good := lw_in (i := 679) (by decide +kernel) rfl
theorem w680 : Cond.methodLink RX4 92 yX4_carryOneOut ∈ lw_good := lw_in (i := 680) (by decide +kernel) rfl
theorem w682 : Cond.instanceMethod yX4_carryOneOut ∈ lw_good := lw_in (i := 682) (by decide +kernel) rfl
theorem w683 : Cond.code yX4_carryOneOut cX4_carryOneOut 3 (some (Jvm.ClassFile.FieldType.boolean)) ∈ lw_good := lw_in (i := 683) (by decide +kernel) rfl
theorem w684 : Cond.methodLink RX4 96 yX4_changeLevels ∈ lw_good := lw_in (i := 684) (by decide +kernel) rfl
theorem w686 : Cond.instanceMethod yX4_changeLevels ∈ lw_good := lw_in (i := 686) (by decide +kernel) rfl
theorem w687 : Cond.code yX4_changeLevels cX4_changeLevels 5 (some (Jvm.ClassFile.FieldType.boolean)) ∈ lw_good := lw_in (i := 687) (by decide +kernel) rfl
theorem w688 : Cond.methodLink RX4 119 yX4_changeSpan ∈ lw_good := lw_in (i := 688) (by decide +kernel) rfl
theorem w690 : Cond.instanceMethod yX4_changeSpan ∈ lw_good := lw_in (i := 690) (by decide +kernel) rfl
theorem w691 : Cond.code yX4_changeSpan cX4_changeSpan 9 (some (Jvm.ClassFile.FieldType.boolean)) ∈ lw_good := lw_in (i := 691) (by decide +kernel) rfl
theorem w692 : Cond.methodLink RX4 123 yJ9_abs_0f7a4 ∈ lw_good := lw_in (i := 692) (by decide +kernel) rfl
theorem w693 : Cond.static yJ9_abs_0f7a4 ∈ lw_good := lw_in (i := 693) (by decide +kernel) rfl
theorem w694 : Cond.code yJ9_abs_0f7a4 cJ9_abs_0f7a4 1 (some (Jvm.ClassFile.FieldType.int)) ∈ lw_good := lw_in (i := 694) (by decide +kernel) rfl
theorem w695 : Cond.methodLink RX4 129 yX6_hasLamp ∈ lw_good := lw_in (i := 695) (by decide +kernel) rfl
theorem w696 : Cond.methodLink RX4 99 yX6_recordCue ∈ lw_good := lw_in (i := 696) (by decide +kernel) rfl
theorem w697 : Cond.methodLink RX4 105 yX4_startRecorded ∈ lw_good := lw_in (i := 697) (by decide +kernel) rfl
theorem w699 : Cond.instanceMethod yX4_startRecorded ∈ lw_good := lw_in (i := 699) (by decide +kernel) rfl
theorem w700 : Cond.code yX4_startRecorded cX4_startRecorded 3 (some (Jvm.ClassFile.FieldType.boolean)) ∈ lw_good := lw_in (i := 700) (by decide +kernel) rfl
theorem w701 : Cond.methodLink RX4 111 yX6_isRecorded ∈ lw_good := lw_in (i := 701) (by decide +kernel) rfl
theorem w702 : Cond.methodLink RX4 116 yX6_startCue ∈ lw_good := lw_in (i := 702) (by decide +kernel) rfl
theorem w703 : Cond.methodLink RX4 108 yX6_clearTrips ∈ lw_good := lw_in (i := 703) (by decide +kernel) rfl
theorem w704 : Cond.methodLink RL 72 yX11_lamp ∈ lw_good := lw_in (i := 704) (by decide +kernel) rfl
theorem w705 : Cond.instanceMethod yX11_lamp ∈ lw_good := lw_in (i := 705) (by decide +kernel) rfl
theorem w706 : Cond.selects RX11 yX11_lamp yX11_lamp ∈ lw_good := lw_in (i := 706) (by decide +kernel) rfl
theorem w707 : Cond.code yX11_lamp cX11_lamp 5 (some (Jvm.ClassFile.FieldType.int)) ∈ lw_good := lw_in (i := 707) (by decide +kernel) rfl
theorem w708 : Cond.methodLink RX11 212 yX6_loadOfLamp ∈ lw_good := lw_in (i := 708) (by decide +kernel) rfl
theorem w709 : Cond.methodLink RL 76 yX11_dimmer ∈ lw_good := lw_in (i := 709) (by decide +kernel) rfl
theorem w710 : Cond.instanceMethod yX11_dimmer ∈ lw_good := lw_in (i := 710) (by decide +kernel) rfl
theorem w711 : Cond.selects RX11 yX11_dimmer yX11_dimmer ∈ lw_good := lw_in (i := 711) (by decide +kernel) rfl
theorem w712 : Cond.code yX11_dimmer cX11_dimmer 5 (some (Jvm.ClassFile.FieldType.int)) ∈ lw_good := lw_in (i := 712) (by decide +kernel) rfl
theorem w713 : Cond.methodLink RX11 216 yX3_measureNow ∈ lw_good := lw_in (i := 713) (by decide +kernel) rfl
theorem w714 : Cond.methodLink RX11 223 yX0_hasTripped ∈ lw_good := lw_in (i := 714) (by decide +kernel) rfl
theorem w715 : Cond.methodLink RX11 231 yX6_lampsOn ∈ lw_good := lw_in (i := 715) (by decide +kernel) rfl
theorem w716 : Cond.instanceMethod yX6_lampsOn ∈ lw_good := lw_in (i := 716) (by decide +kernel) rfl
theorem w717 : Cond.selects RX6 yX6_lampsOn yX6_lampsOn ∈ lw_good := lw_in (i := 717) (by decide +kernel) rfl
theorem w718 : Cond.code yX6_lampsOn cX6_lampsOn 4 (some (Jvm.ClassFile.FieldType.int)) ∈ lw_good := lw_in (i := 718) (by decide +kernel) rfl
theorem w719 : Cond.methodLink RL 80 yX11_phase ∈ lw_good := lw_in (i := 719) (by decide +kernel) rfl
theorem w720 : Cond.instanceMethod yX11_phase ∈ lw_good := lw_in (i := 720) (by decide +kernel) rfl
theorem w721 : Cond.selects RX11 yX11_phase yX11_phase ∈ lw_good := lw_in (i := 721) (by decide +kernel) rfl
theorem w722 : Cond.code yX11_phase cX11_phase 5 (some (Jvm.ClassFile.FieldType.int)) ∈ lw_good := lw_in (i := 722) (by decide +kernel) rfl
theorem w723 : Cond.methodLink RX11 237 yX6_dimmersOn ∈ lw_good := lw_in (i := 723) (by decide +kernel) rfl
theorem w724 : Cond.instanceMethod yX6_dimmersOn ∈ lw_good := lw_in (i := 724) (by decide +kernel) rfl
theorem w725 : Cond.selects RX6 yX6_dimmersOn yX6_dimmersOn ∈ lw_good := lw_in (i := 725) (by decide +kernel) rfl
theorem w726 : Cond.code yX6_dimmersOn cX6_dimmersOn 4 (some (Jvm.ClassFile.FieldType.int)) ∈ lw_good := lw_in (i := 726) (by decide +kernel) rfl
theorem w727 : Cond.methodLink RL 84 yX11_cue ∈ lw_good := lw_in (i := 727) (by decide +kernel) rfl
theorem w728 : Cond.instanceMethod yX11_cue ∈ lw_good := lw_in (i := 728) (by decide +kernel) rfl
theorem w729 : Cond.selects RX11 yX11_cue yX11_cue ∈ lw_good := lw_in (i := 729) (by decide +kernel) rfl
theorem w730 : Cond.code yX11_cue cX11_cue 5 (some (Jvm.ClassFile.FieldType.int)) ∈ lw_good := lw_in (i := 730) (by decide +kernel) rfl
theorem w731 : Cond.methodLink RX11 240 yX3_measureCue ∈ lw_good := lw_in (i := 731) (by decide +kernel) rfl
theorem w732 : Cond.methodLink RX11 244 yX3_sumOfPhases ∈ lw_good := lw_in (i := 732) (by decide +kernel) rfl
theorem w733 : Cond.instanceMethod yX3_sumOfPhases ∈ lw_good := lw_in (i := 733) (by decide +kernel) rfl
theorem w734 : Cond.selects RX3 yX3_sumOfPhases yX3_sumOfPhases ∈ lw_good := lw_in (i := 734) (by decide +kernel) rfl
theorem w735 : Cond.code yX3_sumOfPhases cX3_sumOfPhases 6 (some (Jvm.ClassFile.FieldType.int)) ∈ lw_good := lw_in (i := 735) (by decide +kernel) rfl
theorem w736 : Cond.methodLink RL 88 yX11_inCue ∈ lw_good := lw_in (i := 736) (by decide +kernel) rfl
theorem w737 : Cond.instanceMethod yX11_inCue ∈ lw_good := lw_in (i := 737) (by decide +kernel) rfl
theorem w738 : Cond.selects RX11 yX11_inCue yX11_inCue ∈ lw_good := lw_in (i := 738) (by decide +kernel) rfl
theorem w739 : Cond.code yX11_inCue cX11_inCue 5 (some (Jvm.ClassFile.FieldType.int)) ∈ lw_good := lw_in (i := 739) (by decide +kernel) rfl
theorem w740 : Cond.methodLink RL 92 yX11_of ∈ lw_good := lw_in (i := 740) (by decide +kernel) rfl
theorem w741 : Cond.instanceMethod yX11_of ∈ lw_good := lw_in (i := 741) (by decide +kernel) rfl
theorem w742 : Cond.selects RX11 yX11_of yX11_of ∈ lw_good := lw_in (i := 742) (by decide +kernel) rfl
theorem w743 : Cond.code yX11_of cX11_of 4 (some (Jvm.ClassFile.FieldType.int)) ∈ lw_good := lw_in (i := 743) (by decide +kernel) rfl
theorem w744 : Cond.methodLink RX11 258 yX1_ticksLeft ∈ lw_good := lw_in (i := 744) (by decide +kernel) rfl
theorem w745 : Cond.instanceMethod yX1_ticksLeft ∈ lw_good := lw_in (i := 745) (by decide +kernel) rfl
theorem w746 : Cond.selects RX1 yX1_ticksLeft yX1_ticksLeft ∈ lw_good := lw_in (i := 746) (by decide +kernel) rfl
theorem w747 : Cond.code yX1_ticksLeft cX1_ticksLeft 1 (some (Jvm.ClassFile.FieldType.int)) ∈ lw_good := lw_in (i := 747) (by decide +kernel) rfl
theorem w748 : Cond.methodLink RX11 266 yX11_greatest ∈ lw_good := lw_in (i := 748) (by decide +kernel) rfl
theorem w749 : Cond.static yX11_greatest ∈ lw_good := lw_in (i := 749) (by decide +kernel) rfl
theorem w750 : Cond.code yX11_greatest cX11_greatest 6 (some (Jvm.ClassFile.FieldType.int)) ∈ lw_good := lw_in (i := 750) (by decide +kernel) rfl
theorem w751 : Cond.methodLink RX11 270 yX11_least ∈ lw_good := lw_in (i := 751) (by decide +kernel) rfl
theorem w752 : Cond.static yX11_least ∈ lw_good := lw_in (i := 752) (by decide +kernel) rfl
theorem w753 : Cond.code yX11_least cX11_least 6 (some (Jvm.ClassFile.FieldType.int)) ∈ lw_good := lw_in (i := 753) (by decide +kernel) rfl
theorem w754 : Cond.methodLink RX11 349 yJ9_min_7cf53 ∈ lw_good := lw_in (i := 754) (by decide +kernel) rfl
theorem w755 : Cond.static yJ9_min_7cf53 ∈ lw_good := lw_in (i := 755) (by decide +kernel) rfl
theorem w756 : Cond.code yJ9_min_7cf53 cJ9_min_7cf53 2 (some (Jvm.ClassFile.FieldType.int)) ∈ lw_good := lw_in (i := 756) (by decide +kernel) rfl
theorem w757 : Cond.methodLink RL 96 yX11_hire ∈ lw_good := lw_in (i := 757) (by decide +kernel) rfl
theorem w758 : Cond.instanceMethod yX11_hire ∈ lw_good := lw_in (i := 758) (by decide +kernel) rfl
theorem w759 : Cond.selects RX11 yX11_hire yX11_hire ∈ lw_good := lw_in (i := 759) (by decide +kernel) rfl
theorem w760 : Cond.code yX11_hire cX11_hire 4 (some (Jvm.ClassFile.FieldType.int)) ∈ lw_good := lw_in (i := 760) (by decide +kernel) rfl
theorem w761 : Cond.methodLink RX11 273 yX7_needed ∈ lw_good := lw_in (i := 761) (by decide +kernel) rfl
theorem w762 : Cond.instanceMethod yX7_needed ∈ lw_good := lw_in (i := 762) (by decide +kernel) rfl
theorem w763 : Cond.selects RX7 yX7_needed yX7_needed ∈ lw_good := lw_in (i := 763) (by decide +kernel) rfl
theorem w764 : Cond.code yX7_needed cX7_needed 8 (some (Jvm.ClassFile.FieldType.int)) ∈ lw_good := lw_in (i := 764) (by decide +kernel) rfl
theorem w765 : Cond.methodLink RX7 56 yX6_isOn ∈ lw_good := lw_in (i := 765) (by decide +kernel) rfl
theorem w766 : Cond.instanceMethod yX6_isOn ∈ lw_good := lw_in (i := 766) (by decide +kernel) rfl
theorem w767 : Cond.selects RX6 yX6_isOn yX6_isOn ∈ lw_good := lw_in (i := 767) (by decide +kernel) rfl
theorem w768 : Cond.code yX6_isOn cX6_isOn 2 (some (Jvm.ClassFile.FieldType.boolean)) ∈ lw_good := lw_in (i := 768) (by decide +kernel) rfl
theorem w770 : Cond.methodLink RX7 60 yX6_lampsOfType ∈ lw_good := lw_in (i := 770) (by decide +kernel) rfl
theorem w771 : Cond.instanceMethod yX6_lampsOfType ∈ lw_good := lw_in (i := 771) (by decide +kernel) rfl
theorem w772 : Cond.selects RX6 yX6_lampsOfType yX6_lampsOfType ∈ lw_good := lw_in (i := 772) (by decide +kernel) rfl
theorem w773 : Cond.code yX6_lampsOfType cX6_lampsOfType 4 (some (Jvm.ClassFile.FieldType.int)) ∈ lw_good := lw_in (i := 773) (by decide +kernel) rfl
theorem w774 : Cond.methodLink RX11 276 yX7_missing ∈ lw_good := lw_in (i := 774) (by decide +kernel) rfl
theorem w775 : Cond.instanceMethod yX7_missing ∈ lw_good := lw_in (i := 775) (by decide +kernel) rfl
theorem w776 : Cond.selects RX7 yX7_missing yX7_missing ∈ lw_good := lw_in (i := 776) (by decide +kernel) rfl
theorem w777 : Cond.code yX7_missing cX7_missing 3 (some (Jvm.ClassFile.FieldType.int)) ∈ lw_good := lw_in (i := 777) (by decide +kernel) rfl
theorem w778 : Cond.methodLink RX7 64 yX7_needed ∈ lw_good := lw_in (i := 778) (by decide +kernel) rfl
theorem w779 : Cond.methodLink RX7 68 yX9_stockOf ∈ lw_good := lw_in (i := 779) (by decide +kernel) rfl
theorem w780 : Cond.instanceMethod yX9_stockOf ∈ lw_good := lw_in (i := 780) (by decide +kernel) rfl
theorem w781 : Cond.selects RX9 yX9_stockOf yX9_stockOf ∈ lw_good := lw_in (i := 781) (by decide +kernel) rfl
theorem w782 : Cond.code yX9_stockOf cX9_stockOf 2 (some (Jvm.ClassFile.FieldType.int)) ∈ lw_good := lw_in (i := 782) (by decide +kernel) rfl
theorem w783 : Cond.methodLink RX9 29 yX9_has ∈ lw_good := lw_in (i := 783) (by decide +kernel) rfl
theorem w784 : Cond.methodLink RX7 71 yJ9_max_7cf53 ∈ lw_good := lw_in (i := 784) (by decide +kernel) rfl
theorem w785 : Cond.methodLink RX11 279 yX7_cost ∈ lw_good := lw_in (i := 785) (by decide +kernel) rfl
theorem w786 : Cond.instanceMethod yX7_cost ∈ lw_good := lw_in (i := 786) (by decide +kernel) rfl
theorem w787 : Cond.selects RX7 yX7_cost yX7_cost ∈ lw_good := lw_in (i := 787) (by decide +kernel) rfl
theorem w788 : Cond.code yX7_cost cX7_cost 3 (some (Jvm.ClassFile.FieldType.int)) ∈ lw_good := lw_in (i := 788) (by decide +kernel) rfl
theorem w789 : Cond.methodLink RX7 76 yX9_priceOf ∈ lw_good := lw_in (i := 789) (by decide +kernel) rfl
theorem w790 : Cond.instanceMethod yX9_priceOf ∈ lw_good := lw_in (i := 790) (by decide +kernel) rfl
theorem w791 : Cond.selects RX9 yX9_priceOf yX9_priceOf ∈ lw_good := lw_in (i := 791) (by decide +kernel) rfl
theorem w792 : Cond.code yX9_priceOf cX9_priceOf 2 (some (Jvm.ClassFile.FieldType.int)) ∈ lw_good := lw_in (i := 792) (by decide +kernel) rfl
theorem w793 : Cond.methodLink RX7 79 yJ9_min_7cf53 ∈ lw_good := lw_in (i := 793) (by decide +kernel) rfl
theorem w794 : Cond.methodLink RL 100 yX11_count ∈ lw_good := lw_in (i := 794) (by decide +kernel) rfl
theorem w795 : Cond.instanceMethod yX11_count ∈ lw_good := lw_in (i := 795) (by decide +kernel) rfl
theorem w796 : Cond.selects RX11 yX11_count yX11_count ∈ lw_good := lw_in (i := 796) (by decide +kernel) rfl
theorem w797 : Cond.code yX11_count cX11_count 2 (some (Jvm.ClassFile.FieldType.int)) ∈ lw_good := lw_in (i := 797) (by decide +kernel) rfl
theorem w798 : Cond.methodLink RX11 285 yX7_wholeCost ∈ lw_good := lw_in (i := 798) (by decide +kernel) rfl
theorem w799 : Cond.instanceMethod yX7_wholeCost ∈ lw_good := lw_in (i := 799) (by decide +kernel) rfl
theorem w800 : Cond.selects RX7 yX7_wholeCost yX7_wholeCost ∈ lw_good := lw_in (i := 800) (by decide +kernel) rfl
theorem w801 : Cond.code yX7_wholeCost cX7_wholeCost 4 (some (Jvm.ClassFile.FieldType.int)) ∈ lw_good := lw_in (i := 801) (by decide +kernel) rfl
theorem w802 : Cond.methodLink RX7 85 yX7_cost ∈ lw_good := lw_in (i := 802) (by decide +kernel) rfl
theorem w803 : Cond.methodLink RX11 288 yX7_allMissing ∈ lw_good := lw_in (i := 803) (by decide +kernel) rfl
theorem w804 : Cond.instanceMethod yX7_allMissing ∈ lw_good := lw_in (i := 804) (by decide +kernel) rfl
theorem w805 : Cond.selects RX7 yX7_allMissing yX7_allMissing ∈ lw_good := lw_in (i := 805) (by decide +kernel) rfl
theorem w806 : Cond.code yX7_allMissing cX7_allMissing 4 (some (Jvm.ClassFile.FieldType.int)) ∈ lw_good := lw_in (i := 806) (by decide +kernel) rfl
theorem w807 : Cond.methodLink RX7 88 yX7_missing ∈ lw_good := lw_in (i := 807) (by decide +kernel) rfl
theorem w808 : Cond.methodLink RX11 291 yX7_busiestDay ∈ lw_good := lw_in (i := 808) (by decide +kernel) rfl
theorem w809 : Cond.instanceMethod yX7_busiestDay ∈ lw_good := lw_in (i := 809) (by decide +kernel) rfl
theorem w810 : Cond.selects RX7 yX7_busiestDay yX7_busiestDay ∈ lw_good := lw_in (i := 810) (by decide +kernel) rfl
theorem w811 : Cond.code yX7_busiestDay cX7_busiestDay 5 (some (Jvm.ClassFile.FieldType.int)) ∈ lw_good := lw_in (i := 811) (by decide +kernel) rfl
theorem w812 : Cond.methodLink RX7 91 yX7_neededOn ∈ lw_good := lw_in (i := 812) (by decide +kernel) rfl
theorem w814 : Cond.instanceMethod yX7_neededOn ∈ lw_good := lw_in (i := 814) (by decide +kernel) rfl
theorem w815 : Cond.code yX7_neededOn cX7_neededOn 7 (some (Jvm.ClassFile.FieldType.int)) ∈ lw_good := lw_in (i := 815) (by decide +kernel) rfl
theorem w816 : Cond.methodLink RL 104 yX11_ifGo ∈ lw_good := lw_in (i := 816) (by decide +kernel) rfl
theorem w817 : Cond.instanceMethod yX11_ifGo ∈ lw_good := lw_in (i := 817) (by decide +kernel) rfl
theorem w818 : Cond.selects RX11 yX11_ifGo yX11_ifGo ∈ lw_good := lw_in (i := 818) (by decide +kernel) rfl
theorem w819 : Cond.code yX11_ifGo cX11_ifGo 5 (some (Jvm.ClassFile.FieldType.int)) ∈ lw_good := lw_in (i := 819) (by decide +kernel) rfl
theorem w820 : Cond.methodLink RX11 297 yX8_playToTheEnd ∈ lw_good := lw_in (i := 820) (by decide +kernel) rfl
theorem w821 : Cond.instanceMethod yX8_playToTheEnd ∈ lw_good := lw_in (i := 821) (by decide +kernel) rfl
theorem w822 : Cond.selects RX8 yX8_playToTheEnd yX8_playToTheEnd ∈ lw_good := lw_in (i := 822) (by decide +kernel) rfl
theorem w823 : Cond.code yX8_playToTheEnd cX8_playToTheEnd 8 none ∈ lw_good := lw_in (i := 823) (by decide +kernel) rfl
theorem w824 : Cond.methodLink RX8 18 yX6_isRecorded ∈ lw_good := lw_in (i := 824) (by decide +kernel) rfl
theorem w825 : Cond.methodLink RX8 26 yX8_begin ∈ lw_good := lw_in (i := 825) (by decide +kernel) rfl
theorem w827 : Cond.instanceMethod yX8_begin ∈ lw_good := lw_in (i := 827) (by decide +kernel) rfl
theorem w828 : Cond.code yX8_begin cX8_begin 4 none ∈ lw_good := lw_in (i := 828) (by decide +kernel) rfl
theorem w829 : Cond.methodLink RX8 70 yX6_copyFrom ∈ lw_good := lw_in (i := 829) (by decide +kernel) rfl
theorem w830 : Cond.methodLink RX8 74 yX6_startCue ∈ lw_good := lw_in (i := 830) (by decide +kernel) rfl
theorem w831 : Cond.methodLink RX8 35 yX6_passTick ∈ lw_good := lw_in (i := 831) (by decide +kernel) rfl
theorem w833 : Cond.methodLink RX8 58 yJ9_max_7cf53 ∈ lw_good := lw_in (i := 833) (by decide +kernel) rfl
theorem w834 : Cond.methodLink RL 108 yX11_safeTicks ∈ lw_good := lw_in (i := 834) (by decide +kernel) rfl
theorem w835 : Cond.instanceMethod yX11_safeTicks ∈ lw_good := lw_in (i := 835) (by decide +kernel) rfl
theorem w836 : Cond.selects RX11 yX11_safeTicks yX11_safeTicks ∈ lw_good := lw_in (i := 836) (by decide +kernel) rfl
theorem w837 : Cond.code yX11_safeTicks cX11_safeTicks 5 (some (Jvm.ClassFile.FieldType.int)) ∈ lw_good := lw_in (i := 837) (by decide +kernel) rfl
theorem w838 : Cond.methodLink RX11 313 yX8_isSafe ∈ lw_good := lw_in (i := 838) (by decide +kernel) rfl
theorem w839 : Cond.instanceMethod yX8_isSafe ∈ lw_good := lw_in (i := 839) (by decide +kernel) rfl
theorem w840 : Cond.selects RX8 yX8_isSafe yX8_isSafe ∈ lw_good := lw_in (i := 840) (by decide +kernel) rfl
theorem w841 : Cond.code yX8_isSafe cX8_isSafe 7 (some (Jvm.ClassFile.FieldType.boolean)) ∈ lw_good := lw_in (i := 841) (by decide +kernel) rfl
theorem w842 : Cond.methodLink RL 112 yX11_bestFeed ∈ lw_good := lw_in (i := 842) (by decide +kernel) rfl
theorem w843 : Cond.instanceMethod yX11_bestFeed ∈ lw_good := lw_in (i := 843) (by decide +kernel) rfl
theorem w844 : Cond.selects RX11 yX11_bestFeed yX11_bestFeed ∈ lw_good := lw_in (i := 844) (by decide +kernel) rfl
theorem w845 : Cond.code yX11_bestFeed cX11_bestFeed 9 (some (Jvm.ClassFile.FieldType.int)) ∈ lw_good := lw_in (i := 845) (by decide +kernel) rfl
theorem w846 : Cond.methodLink RL 116 yX11_ifDays ∈ lw_good := lw_in (i := 846) (by decide +kernel) rfl
theorem w847 : Cond.instanceMethod yX11_ifDays ∈ lw_good := lw_in (i := 847) (by decide +kernel) rfl
theorem w848 : Cond.selects RX11 yX11_ifDays yX11_ifDays ∈ lw_good := lw_in (i := 848) (by decide +kernel) rfl
theorem w849 : Cond.code yX11_ifDays cX11_ifDays 8 (some (Jvm.ClassFile.FieldType.int)) ∈ lw_good := lw_in (i := 849) (by decide +kernel) rfl
theorem w850 : Cond.methodLink RL 122 yX11_put ∈ lw_good := lw_in (i := 850) (by decide +kernel) rfl
theorem w851 : Cond.instanceMethod yX11_put ∈ lw_good := lw_in (i := 851) (by decide +kernel) rfl
theorem w852 : Cond.selects RX11 yX11_put yX11_put ∈ lw_good := lw_in (i := 852) (by decide +kernel) rfl
theorem w853 : Cond.code yX11_put cX11_put 4 (some (Jvm.ClassFile.FieldType.int)) ∈ lw_good := lw_in (i := 853) (by decide +kernel) rfl
theorem w854 : Cond.methodLink RX11 317 yX5_signsIn ∈ lw_good := lw_in (i := 854) (by decide +kernel) rfl
theorem w855 : Cond.static yX5_signsIn ∈ lw_good := lw_in (i := 855) (by decide +kernel) rfl
theorem w856 : Cond.code yX5_signsIn cX5_signsIn 7 (some (Jvm.ClassFile.FieldType.int)) ∈ lw_good := lw_in (i := 856) (by decide +kernel) rfl
theorem w857 : Cond.constantLong RX5 15 255 ∈ lw_good := lw_in (i := 857) (by decide +kernel) rfl
theorem w858 : Cond.constantLong RX5 17 33 ∈ lw_good := lw_in (i := 858) (by decide +kernel) rfl
theorem w859 : Cond.constantLong RX5 19 126 ∈ lw_good := lw_in (i := 859) (by decide +kernel) rfl
theorem w860 : Cond.methodLink RX11 321 yX5_append ∈ lw_good := lw_in (i := 860) (by decide +kernel) rfl
theorem w861 : Cond.instanceMethod yX5_append ∈ lw_good := lw_in (i := 861) (by decide +kernel) rfl
theorem w862 : Cond.selects RX5 yX5_append yX5_append ∈ lw_good := lw_in (i := 862) (by decide +kernel) rfl
theorem w863 : Cond.code yX5_append cX5_append 5 none ∈ lw_good := lw_in (i := 863) (by decide +kernel) rfl
theorem w864 : Cond.methodLink RL 127 yX11_wipe ∈ lw_good := lw_in (i := 864) (by decide +kernel) rfl
theorem w865 : Cond.instanceMethod yX11_wipe ∈ lw_good := lw_in (i := 865) (by decide +kernel) rfl
theorem w866 : Cond.selects RX11 yX11_wipe yX11_wipe ∈ lw_good := lw_in (i := 866) (by decide +kernel) rfl
theorem w867 : Cond.code yX11_wipe cX11_wipe 2 (some (Jvm.ClassFile.FieldType.int)) ∈ lw_good := lw_in (i := 867) (by decide +kernel) rfl
theorem w868 : Cond.methodLink RL 132 yX11_fault ∈ lw_good := lw_in (i := 868) (by decide +kernel) rfl
theorem w869 : Cond.instanceMethod yX11_fault ∈ lw_good := lw_in (i := 869) (by decide +kernel) rfl
theorem w870 : Cond.selects RX11 yX11_fault yX11_fault ∈ lw_good := lw_in (i := 870) (by decide +kernel) rfl
theorem w871 : Cond.code yX11_fault cX11_fault 1 (some (Jvm.ClassFile.FieldType.int)) ∈ lw_good := lw_in (i := 871) (by decide +kernel) rfl
theorem w872 : Cond.methodLink RL 136 yX11_undo ∈ lw_good := lw_in (i := 872) (by decide +kernel) rfl
theorem w873 : Cond.instanceMethod yX11_undo ∈ lw_good := lw_in (i := 873) (by decide +kernel) rfl
theorem w874 : Cond.selects RX11 yX11_undo yX11_undo ∈ lw_good := lw_in (i := 874) (by decide +kernel) rfl
theorem w875 : Cond.code yX11_undo cX11_undo 1 (some (Jvm.ClassFile.FieldType.int)) ∈ lw_good := lw_in (i := 875) (by decide +kernel) rfl
theorem w876 : Cond.methodLink RX11 328 yX2_pop ∈ lw_good := lw_in (i := 876) (by decide +kernel) rfl
theorem w877 : Cond.instanceMethod yX2_pop ∈ lw_good := lw_in (i := 877) (by decide +kernel) rfl
theorem w878 : Cond.selects RX2 yX2_pop yX2_pop ∈ lw_good := lw_in (i := 878) (by decide +kernel) rfl
theorem w879 : Cond.code yX2_pop cX2_pop 2 (some (Jvm.ClassFile.FieldType.boolean)) ∈ lw_good := lw_in (i := 879) (by decide +kernel) rfl
theorem w880 : Cond.methodLink RL 140 yX11_save ∈ lw_good := lw_in (i := 880) (by decide +kernel) rfl
theorem w881 : Cond.instanceMethod yX11_save ∈ lw_good := lw_in (i := 881) (by decide +kernel) rfl
theorem w882 : Cond.selects RX11 yX11_save yX11_save ∈ lw_good := lw_in (i := 882) (by decide +kernel) rfl
theorem w883 : Cond.code yX11_save cX11_save 2 (some (Jvm.ClassFile.FieldType.int)) ∈ lw_good := lw_in (i := 883) (by decide +kernel) rfl
theorem w884 : Cond.methodLink RX11 332 yX7_copyFrom ∈ lw_good := lw_in (i := 884) (by decide +kernel) rfl
theorem w885 : Cond.methodLink RX11 338 yX7_allLamps ∈ lw_good := lw_in (i := 885) (by decide +kernel) rfl
theorem w886 : Cond.instanceMethod yX7_allLamps ∈ lw_good := lw_in (i := 886) (by decide +kernel) rfl
theorem w887 : Cond.selects RX7 yX7_allLamps yX7_allLamps ∈ lw_good := lw_in (i := 887) (by decide +kernel) rfl
theorem w888 : Cond.code yX7_allLamps cX7_allLamps 6 (some (Jvm.ClassFile.FieldType.int)) ∈ lw_good := lw_in (i := 888) (by decide +kernel) rfl
theorem w889 : Cond.methodLink RL 144 yX11_restore ∈ lw_good := lw_in (i := 889) (by decide +kernel) rfl
theorem w890 : Cond.instanceMethod yX11_restore ∈ lw_good := lw_in (i := 890) (by decide +kernel) rfl
theorem w891 : Cond.selects RX11 yX11_restore yX11_restore ∈ lw_good := lw_in (i := 891) (by decide +kernel) rfl
theorem w892 : Cond.code yX11_restore cX11_restore 2 (some (Jvm.ClassFile.FieldType.int)) ∈ lw_good := lw_in (i := 892) (by decide +kernel) rfl
theorem w893 : Cond.methodLink RX11 341 yX11_hasBit ∈ lw_good := lw_in (i := 893) (by decide +kernel) rfl
theorem w894 : Cond.classLink RL 10 RX12 ∈ lw_good := lw_in (i := 894) (by decide +kernel) rfl
theorem w895 : Cond.instantiable RX12 21 ∈ lw_good := lw_in (i := 895) (by decide +kernel) rfl
theorem w896 : Cond.methodLink RL 12 yX12_init ∈ lw_good := lw_in (i := 896) (by decide +kernel) rfl
theorem w897 : Cond.instanceMethod yX12_init ∈ lw_good := lw_in (i := 897) (by decide +kernel) rfl
theorem w898 : Cond.code yX12_init cX12_init 2 none ∈ lw_good := lw_in (i := 898) (by decide +kernel) rfl
theorem w899 : Cond.methodLink RX12 1 ⟨"java/lang/Object", "<init>", "()V"⟩ ∈ lw_good := lw_in (i := 899) (by decide +kernel) rfl
theorem w900 : Cond.methodLink RX12 38 yX12_at1 ∈ lw_good := lw_in (i := 900) (by decide +kernel) rfl
theorem w901 : Cond.static yX12_at1 ∈ lw_good := lw_in (i := 901) (by decide +kernel) rfl
theorem w902 : Cond.code yX12_at1 cX12_at1 2 (some (Jvm.ClassFile.FieldType.int)) ∈ lw_good := lw_in (i := 902) (by decide +kernel) rfl
theorem w903 : Cond.fieldLink RX12 7 "PhaseLightsModel" "s" "[I" ∈ lw_good := lw_in (i := 903) (by decide +kernel) rfl
theorem w904 : Cond.fieldLink RX12 13 "PhaseLightsModel" "aside" "[I" ∈ lw_good := lw_in (i := 904) (by decide +kernel) rfl
theorem w905 : Cond.fieldLink RX12 16 "PhaseLightsModel" "before" "[I" ∈ lw_good := lw_in (i := 905) (by decide +kernel) rfl
theorem w906 : Cond.fieldLink RX12 50 "PhaseLightsModel" "known" "I" ∈ lw_good := lw_in (i := 906) (by decide +kernel) rfl
theorem w907 : Cond.fieldLink RX12 19 "PhaseLightsModel" "slots" "[I" ∈ lw_good := lw_in (i := 907) (by decide +kernel) rfl
theorem w908 : Cond.fieldLink RX12 22 "PhaseLightsModel" "isSaved" "[Z" ∈ lw_good := lw_in (i := 908) (by decide +kernel) rfl
theorem w909 : Cond.fieldLink RX12 26 "PhaseLightsModel" "pad" "[I" ∈ lw_good := lw_in (i := 909) (by decide +kernel) rfl
theorem w910 : Cond.fieldLink RX12 118 "PhaseLightsModel" "length" "I" ∈ lw_good := lw_in (i := 910) (by decide +kernel) rfl
theorem w911 : Cond.fieldLink RX12 29 "PhaseLightsModel" "worsts" "[I" ∈ lw_good := lw_in (i := 911) (by decide +kernel) rfl
theorem w912 : Cond.fieldLink RX12 32 "PhaseLightsModel" "sums" "[I" ∈ lw_good := lw_in (i := 912) (by decide +kernel) rfl
theorem w913 : Cond.fieldLink RX12 121 "PhaseLightsModel" "place" "I" ∈ lw_good := lw_in (i := 913) (by decide +kernel) rfl
theorem w914 : Cond.fieldLink RX12 124 "PhaseLightsModel" "isWrong" "Z" ∈ lw_good := lw_in (i := 914) (by decide +kernel) rfl
theorem w915 : Cond.fieldLink RX12 35 "PhaseLightsModel" "spans" "[I" ∈ lw_good := lw_in (i := 915) (by decide +kernel) rfl
theorem w916 : Cond.fieldLink RX12 134 "PhaseLightsModel" "spansMany" "I" ∈ lw_good := lw_in (i := 916) (by decide +kernel) rfl
theorem w917 : Cond.fieldLink RX12 143 "PhaseLightsModel" "letter" "I" ∈ lw_good := lw_in (i := 917) (by decide +kernel) rfl
theorem w918 : Cond.fieldLink RX12 140 "PhaseLightsModel" "one" "I" ∈ lw_good := lw_in (i := 918) (by decide +kernel) rfl
theorem w919 : Cond.fieldLink RX12 149 "PhaseLightsModel" "two" "I" ∈ lw_good := lw_in (i := 919) (by decide +kernel) rfl
theorem w920 : Cond.fieldLink RX12 199 "PhaseLightsModel" "trips" "I" ∈ lw_good := lw_in (i := 920) (by decide +kernel) rfl
theorem w921 : Cond.fieldLink RX12 202 "PhaseLightsModel" "firstTrip" "I" ∈ lw_good := lw_in (i := 921) (by decide +kernel) rfl
theorem w922 : Cond.fieldLink RX12 205 "PhaseLightsModel" "worstDimmer" "I" ∈ lw_good := lw_in (i := 922) (by decide +kernel) rfl
theorem w923 : Cond.fieldLink RX12 208 "PhaseLightsModel" "worstPhase" "I" ∈ lw_good := lw_in (i := 923) (by decide +kernel) rfl
theorem w924 : Cond.laysFinal "PhaseLightsModel" "PhaseLightsModel" "s" "[I" ∈ lw_good := lw_in (i := 924) (by decide +kernel) rfl
theorem w926 : Cond.laysFinal "PhaseLightsModel" "PhaseLightsModel" "aside" "[I" ∈ lw_good := lw_in (i := 926) (by decide +kernel) rfl
theorem w928 : Cond.laysFinal "PhaseLightsModel" "PhaseLightsModel" "before" "[I" ∈ lw_good := lw_in (i := 928) (by decide +kernel) rfl
theorem w930 : Cond.lays "PhaseLightsModel" "PhaseLightsModel" "known" "I" ∈ lw_good := lw_in (i := 930) (by decide +kernel) rfl
theorem w932 : Cond.laysFinal "PhaseLightsModel" "PhaseLightsModel" "slots" "[I" ∈ lw_good := lw_in (i := 932) (by decide +kernel) rfl
theorem w934 : Cond.laysFinal "PhaseLightsModel" "PhaseLightsModel" "isSaved" "[Z" ∈ lw_good := lw_in (i := 934) (by decide +kernel) rfl
theorem w936 : Cond.laysFinal "PhaseLightsModel" "PhaseLightsModel" "pad" "[I" ∈ lw_good := lw_in (i := 936) (by decide +kernel) rfl
theorem w938 : Cond.lays "PhaseLightsModel" "PhaseLightsModel" "length" "I" ∈ lw_good := lw_in (i := 938) (by decide +kernel) rfl
theorem w940 : Cond.laysFinal "PhaseLightsModel" "PhaseLightsModel" "worsts" "[I" ∈ lw_good := lw_in (i := 940) (by decide +kernel) rfl
theorem w942 : Cond.laysFinal "PhaseLightsModel" "PhaseLightsModel" "sums" "[I" ∈ lw_good := lw_in (i := 942) (by decide +kernel) rfl
theorem w944 : Cond.lays "PhaseLightsModel" "PhaseLightsModel" "place" "I" ∈ lw_good := lw_in (i := 944) (by decide +kernel) rfl
theorem w946 : Cond.lays "PhaseLightsModel" "PhaseLightsModel" "isWrong" "Z" ∈ lw_good := lw_in (i := 946) (by decide +kernel) rfl
theorem w948 : Cond.laysFinal "PhaseLightsModel" "PhaseLightsModel" "spans" "[I" ∈ lw_good := lw_in (i := 948) (by decide +kernel) rfl
theorem w950 : Cond.lays "PhaseLightsModel" "PhaseLightsModel" "spansMany" "I" ∈ lw_good := lw_in (i := 950) (by decide +kernel) rfl
theorem w952 : Cond.lays "PhaseLightsModel" "PhaseLightsModel" "letter" "I" ∈ lw_good := lw_in (i := 952) (by decide +kernel) rfl
theorem w954 : Cond.lays "PhaseLightsModel" "PhaseLightsModel" "one" "I" ∈ lw_good := lw_in (i := 954) (by decide +kernel) rfl
theorem w956 : Cond.lays "PhaseLightsModel" "PhaseLightsModel" "two" "I" ∈ lw_good := lw_in (i := 956) (by decide +kernel) rfl
theorem w958 : Cond.lays "PhaseLightsModel" "PhaseLightsModel" "trips" "I" ∈ lw_good := lw_in (i := 958) (by decide +kernel) rfl
theorem w960 : Cond.lays "PhaseLightsModel" "PhaseLightsModel" "firstTrip" "I" ∈ lw_good := lw_in (i := 960) (by decide +kernel) rfl
theorem w962 : Cond.lays "PhaseLightsModel" "PhaseLightsModel" "worstDimmer" "I" ∈ lw_good := lw_in (i := 962) (by decide +kernel) rfl
theorem w964 : Cond.lays "PhaseLightsModel" "PhaseLightsModel" "worstPhase" "I" ∈ lw_good := lw_in (i := 964) (by decide +kernel) rfl
theorem w967 : Cond.arrayClass Jvm.ClassFile.FieldType.boolean ∈ lw_good := lw_in (i := 967) (by decide +kernel) rfl
theorem w968 : Cond.methodLink RL 17 yX12_set ∈ lw_good := lw_in (i := 968) (by decide +kernel) rfl
theorem w969 : Cond.instanceMethod yX12_set ∈ lw_good := lw_in (i := 969) (by decide +kernel) rfl
theorem w970 : Cond.selects RX12 yX12_set yX12_set ∈ lw_good := lw_in (i := 970) (by decide +kernel) rfl
theorem w971 : Cond.code yX12_set cX12_set 6 (some (Jvm.ClassFile.FieldType.int)) ∈ lw_good := lw_in (i := 971) (by decide +kernel) rfl
theorem w972 : Cond.methodLink RX12 42 yX12_in ∈ lw_good := lw_in (i := 972) (by decide +kernel) rfl
theorem w973 : Cond.static yX12_in ∈ lw_good := lw_in (i := 973) (by decide +kernel) rfl
theorem w974 : Cond.code yX12_in cX12_in 3 (some (Jvm.ClassFile.FieldType.boolean)) ∈ lw_good := lw_in (i := 974) (by decide +kernel) rfl
theorem w975 : Cond.methodLink RX12 77 yX12_know ∈ lw_good := lw_in (i := 975) (by decide +kernel) rfl
theorem w977 : Cond.instanceMethod yX12_know ∈ lw_good := lw_in (i := 977) (by decide +kernel) rfl
theorem w978 : Cond.code yX12_know cX12_know 2 none ∈ lw_good := lw_in (i := 978) (by decide +kernel) rfl
theorem w979 : Cond.methodLink RL 22 yX12_type ∈ lw_good := lw_in (i := 979) (by decide +kernel) rfl
theorem w980 : Cond.instanceMethod yX12_type ∈ lw_good := lw_in (i := 980) (by decide +kernel) rfl
theorem w981 : Cond.selects RX12 yX12_type yX12_type ∈ lw_good := lw_in (i := 981) (by decide +kernel) rfl
theorem w982 : Cond.code yX12_type cX12_type 5 (some (Jvm.ClassFile.FieldType.int)) ∈ lw_good := lw_in (i := 982) (by decide +kernel) rfl
theorem w983 : Cond.methodLink RL 26 yX12_days ∈ lw_good := lw_in (i := 983) (by decide +kernel) rfl
theorem w984 : Cond.instanceMethod yX12_days ∈ lw_good := lw_in (i := 984) (by decide +kernel) rfl
theorem w985 : Cond.selects RX12 yX12_days yX12_days ∈ lw_good := lw_in (i := 985) (by decide +kernel) rfl
theorem w986 : Cond.code yX12_days cX12_days 5 (some (Jvm.ClassFile.FieldType.int)) ∈ lw_good := lw_in (i := 986) (by decide +kernel) rfl
theorem w987 : Cond.methodLink RX12 46 yX12_isPremiere ∈ lw_good := lw_in (i := 987) (by decide +kernel) rfl
theorem w988 : Cond.static yX12_isPremiere ∈ lw_good := lw_in (i := 988) (by decide +kernel) rfl
theorem w989 : Cond.code yX12_isPremiere cX12_isPremiere 1 (some (Jvm.ClassFile.FieldType.boolean)) ∈ lw_good := lw_in (i := 989) (by decide +kernel) rfl
theorem w990 : Cond.methodLink RL 30 yX12_hang ∈ lw_good := lw_in (i := 990) (by decide +kernel) rfl
theorem w991 : Cond.instanceMethod yX12_hang ∈ lw_good := lw_in (i := 991) (by decide +kernel) rfl
theorem w992 : Cond.selects RX12 yX12_hang yX12_hang ∈ lw_good := lw_in (i := 992) (by decide +kernel) rfl
theorem w993 : Cond.code yX12_hang cX12_hang 6 (some (Jvm.ClassFile.FieldType.int)) ∈ lw_good := lw_in (i := 993) (by decide +kernel) rfl
theorem w994 : Cond.methodLink RX12 80 yX12_isDimmer ∈ lw_good := lw_in (i := 994) (by decide +kernel) rfl
theorem w995 : Cond.static yX12_isDimmer ∈ lw_good := lw_in (i := 995) (by decide +kernel) rfl
theorem w996 : Cond.code yX12_isDimmer cX12_isDimmer 1 (some (Jvm.ClassFile.FieldType.boolean)) ∈ lw_good := lw_in (i := 996) (by decide +kernel) rfl
theorem w997 : Cond.methodLink RX12 54 yX12_ofLamp ∈ lw_good := lw_in (i := 997) (by decide +kernel) rfl
theorem w998 : Cond.static yX12_ofLamp ∈ lw_good := lw_in (i := 998) (by decide +kernel) rfl
theorem w999 : Cond.code yX12_ofLamp cX12_ofLamp 3 (some (Jvm.ClassFile.FieldType.int)) ∈ lw_good := lw_in (i := 999) (by decide +kernel) rfl
theorem w1000 : Cond.methodLink RX12 64 yX12_ofCue ∈ lw_good := lw_in (i := 1000) (by decide +kernel) rfl
theorem w1001 : Cond.static yX12_ofCue ∈ lw_good := lw_in (i := 1001) (by decide +kernel) rfl
theorem w1002 : Cond.code yX12_ofCue cX12_ofCue 2 (some (Jvm.ClassFile.FieldType.int)) ∈ lw_good := lw_in (i := 1002) (by decide +kernel) rfl
theorem w1003 : Cond.methodLink RL 34 yX12_takeDown ∈ lw_good := lw_in (i := 1003) (by decide +kernel) rfl
theorem w1004 : Cond.instanceMethod yX12_takeDown ∈ lw_good := lw_in (i := 1004) (by decide +kernel) rfl
theorem w1005 : Cond.selects RX12 yX12_takeDown yX12_takeDown ∈ lw_good := lw_in (i := 1005) (by decide +kernel) rfl
theorem w1006 : Cond.code yX12_takeDown cX12_takeDown 6 (some (Jvm.ClassFile.FieldType.int)) ∈ lw_good := lw_in (i := 1006) (by decide +kernel) rfl
theorem w1007 : Cond.methodLink RX12 83 yX12_isLamp ∈ lw_good := lw_in (i := 1007) (by decide +kernel) rfl
theorem w1009 : Cond.instanceMethod yX12_isLamp ∈ lw_good := lw_in (i := 1009) (by decide +kernel) rfl
theorem w1010 : Cond.code yX12_isLamp cX12_isLamp 3 (some (Jvm.ClassFile.FieldType.boolean)) ∈ lw_good := lw_in (i := 1010) (by decide +kernel) rfl
theorem w1011 : Cond.methodLink RL 38 yX12_patch ∈ lw_good := lw_in (i := 1011) (by decide +kernel) rfl
theorem w1012 : Cond.instanceMethod yX12_patch ∈ lw_good := lw_in (i := 1012) (by decide +kernel) rfl
theorem w1013 : Cond.selects RX12 yX12_patch yX12_patch ∈ lw_good := lw_in (i := 1013) (by decide +kernel) rfl
theorem w1014 : Cond.code yX12_patch cX12_patch 5 (some (Jvm.ClassFile.FieldType.int)) ∈ lw_good := lw_in (i := 1014) (by decide +kernel) rfl
theorem w1015 : Cond.methodLink RL 42 yX12_feed ∈ lw_good := lw_in (i := 1015) (by decide +kernel) rfl
theorem w1016 : Cond.instanceMethod yX12_feed ∈ lw_good := lw_in (i := 1016) (by decide +kernel) rfl
theorem w1017 : Cond.selects RX12 yX12_feed yX12_feed ∈ lw_good := lw_in (i := 1017) (by decide +kernel) rfl
theorem w1018 : Cond.code yX12_feed cX12_feed 5 (some (Jvm.ClassFile.FieldType.int)) ∈ lw_good := lw_in (i := 1018) (by decide +kernel) rfl
theorem w1019 : Cond.methodLink RL 47 yX12_spread ∈ lw_good := lw_in (i := 1019) (by decide +kernel) rfl
theorem w1020 : Cond.instanceMethod yX12_spread ∈ lw_good := lw_in (i := 1020) (by decide +kernel) rfl
theorem w1021 : Cond.selects RX12 yX12_spread yX12_spread ∈ lw_good := lw_in (i := 1021) (by decide +kernel) rfl
theorem w1022 : Cond.code yX12_spread cX12_spread 6 (some (Jvm.ClassFile.FieldType.int)) ∈ lw_good := lw_in (i := 1022) (by decide +kernel) rfl
theorem w1023 : Cond.methodLink RX12 87 yX12_worst ∈ lw_good := lw_in (i := 1023) (by decide +kernel) rfl
theorem w1025 : Cond.instanceMethod yX12_worst ∈ lw_good := lw_in (i := 1025) (by decide +kernel) rfl
theorem w1026 : Cond.code yX12_worst cX12_worst 6 (some (Jvm.ClassFile.FieldType.int)) ∈ lw_good := lw_in (i := 1026) (by decide +kernel) rfl
theorem w1027 : Cond.methodLink RX12 67 yX12_loadBy ∈ lw_good := lw_in (i := 1027) (by decide +kernel) rfl
theorem w1029 : Cond.instanceMethod yX12_loadBy ∈ lw_good := lw_in (i := 1029) (by decide +kernel) rfl
theorem w1030 : Cond.code yX12_loadBy cX12_loadBy 8 (some (Jvm.ClassFile.FieldType.int)) ∈ lw_good := lw_in (i := 1030) (by decide +kernel) rfl
theorem w1031 : Cond.methodLink RX12 58 yX12_watts ∈ lw_good := lw_in (i := 1031) (by decide +kernel) rfl
theorem w1033 : Cond.instanceMethod yX12_watts ∈ lw_good := lw_in (i := 1033) (by decide +kernel) rfl
theorem w1034 : Cond.code yX12_watts cX12_watts 4 (some (Jvm.ClassFile.FieldType.int)) ∈ lw_good := lw_in (i := 1034) (by decide +kernel) rfl
theorem w1035 : Cond.methodLink RL 51 yX12_at ∈ lw_good := lw_in (i := 1035) (by decide +kernel) rfl
theorem w1036 : Cond.instanceMethod yX12_at ∈ lw_good := lw_in (i := 1036) (by decide +kernel) rfl
theorem w1037 : Cond.selects RX12 yX12_at yX12_at ∈ lw_good := lw_in (i := 1037) (by decide +kernel) rfl
theorem w1038 : Cond.code yX12_at cX12_at 6 (some (Jvm.ClassFile.FieldType.int)) ∈ lw_good := lw_in (i := 1038) (by decide +kernel) rfl
theorem w1039 : Cond.methodLink RX12 90 yX12_atFault ∈ lw_good := lw_in (i := 1039) (by decide +kernel) rfl
theorem w1041 : Cond.instanceMethod yX12_atFault ∈ lw_good := lw_in (i := 1041) (by decide +kernel) rfl
theorem w1042 : Cond.code yX12_atFault cX12_atFault 4 (some (Jvm.ClassFile.FieldType.int)) ∈ lw_good := lw_in (i := 1042) (by decide +kernel) rfl
theorem w1043 : Cond.methodLink RL 55 yX12_record ∈ lw_good := lw_in (i := 1043) (by decide +kernel) rfl
theorem w1044 : Cond.instanceMethod yX12_record ∈ lw_good := lw_in (i := 1044) (by decide +kernel) rfl
theorem w1045 : Cond.selects RX12 yX12_record yX12_record ∈ lw_good := lw_in (i := 1045) (by decide +kernel) rfl
theorem w1046 : Cond.code yX12_record cX12_record 5 (some (Jvm.ClassFile.FieldType.int)) ∈ lw_good := lw_in (i := 1046) (by decide +kernel) rfl
theorem w1047 : Cond.methodLink RX12 96 yX12_recordFault ∈ lw_good := lw_in (i := 1047) (by decide +kernel) rfl
theorem w1049 : Cond.instanceMethod yX12_recordFault ∈ lw_good := lw_in (i := 1049) (by decide +kernel) rfl
theorem w1050 : Cond.code yX12_recordFault cX12_recordFault 4 (some (Jvm.ClassFile.FieldType.int)) ∈ lw_good := lw_in (i := 1050) (by decide +kernel) rfl
theorem w1051 : Cond.methodLink RX12 93 yX12_isCue ∈ lw_good := lw_in (i := 1051) (by decide +kernel) rfl
theorem w1052 : Cond.static yX12_isCue ∈ lw_good := lw_in (i := 1052) (by decide +kernel) rfl
theorem w1053 : Cond.code yX12_isCue cX12_isCue 2 (some (Jvm.ClassFile.FieldType.boolean)) ∈ lw_good := lw_in (i := 1053) (by decide +kernel) rfl
theorem w1054 : Cond.methodLink RX12 99 yX12_records ∈ lw_good := lw_in (i := 1054) (by decide +kernel) rfl
theorem w1056 : Cond.instanceMethod yX12_records ∈ lw_good := lw_in (i := 1056) (by decide +kernel) rfl
theorem w1057 : Cond.code yX12_records cX12_records 6 (some (Jvm.ClassFile.FieldType.int)) ∈ lw_good := lw_in (i := 1057) (by decide +kernel) rfl
theorem w1058 : Cond.methodLink RL 59 yX12_go ∈ lw_good := lw_in (i := 1058) (by decide +kernel) rfl
theorem w1059 : Cond.instanceMethod yX12_go ∈ lw_good := lw_in (i := 1059) (by decide +kernel) rfl
theorem w1060 : Cond.selects RX12 yX12_go yX12_go ∈ lw_good := lw_in (i := 1060) (by decide +kernel) rfl
theorem w1061 : Cond.code yX12_go cX12_go 4 (some (Jvm.ClassFile.FieldType.int)) ∈ lw_good := lw_in (i := 1061) (by decide +kernel) rfl
theorem w1062 : Cond.methodLink RX12 102 yX12_goFault ∈ lw_good := lw_in (i := 1062) (by decide +kernel) rfl
theorem w1064 : Cond.instanceMethod yX12_goFault ∈ lw_good := lw_in (i := 1064) (by decide +kernel) rfl
theorem w1065 : Cond.code yX12_goFault cX12_goFault 3 (some (Jvm.ClassFile.FieldType.int)) ∈ lw_good := lw_in (i := 1065) (by decide +kernel) rfl
theorem w1066 : Cond.methodLink RX12 105 yX12_start ∈ lw_good := lw_in (i := 1066) (by decide +kernel) rfl
theorem w1068 : Cond.instanceMethod yX12_start ∈ lw_good := lw_in (i := 1068) (by decide +kernel) rfl
theorem w1069 : Cond.code yX12_start cX12_start 5 none ∈ lw_good := lw_in (i := 1069) (by decide +kernel) rfl
theorem w1070 : Cond.methodLink RL 63 yX12_reset ∈ lw_good := lw_in (i := 1070) (by decide +kernel) rfl
theorem w1071 : Cond.instanceMethod yX12_reset ∈ lw_good := lw_in (i := 1071) (by decide +kernel) rfl
theorem w1072 : Cond.selects RX12 yX12_reset yX12_reset ∈ lw_good := lw_in (i := 1072) (by decide +kernel) rfl
theorem w1073 : Cond.code yX12_reset cX12_reset 2 (some (Jvm.ClassFile.FieldType.int)) ∈ lw_good := lw_in (i := 1073) (by decide +kernel) rfl
theorem w1074 : Cond.methodLink RX12 109 yX12_resets ∈ lw_good := lw_in (i := 1074) (by decide +kernel) rfl
theorem w1076 : Cond.instanceMethod yX12_resets ∈ lw_good := lw_in (i := 1076) (by decide +kernel) rfl
theorem w1077 : Cond.code yX12_resets cX12_resets 4 (some (Jvm.ClassFile.FieldType.int)) ∈ lw_good := lw_in (i := 1077) (by decide +kernel) rfl
theorem w1078 : Cond.methodLink RL 67 yX12_tick ∈ lw_good := lw_in (i := 1078) (by decide +kernel) rfl
theorem w1079 : Cond.instanceMethod yX12_tick ∈ lw_good := lw_in (i := 1079) (by decide +kernel) rfl
theorem w1080 : Cond.selects RX12 yX12_tick yX12_tick ∈ lw_good := lw_in (i := 1080) (by decide +kernel) rfl
theorem w1081 : Cond.code yX12_tick cX12_tick 5 (some (Jvm.ClassFile.FieldType.int)) ∈ lw_good := lw_in (i := 1081) (by decide +kernel) rfl
theorem w1082 : Cond.methodLink RX12 113 yX12_turn ∈ lw_good := lw_in (i := 1082) (by decide +kernel) rfl
theorem w1084 : Cond.instanceMethod yX12_turn ∈ lw_good := lw_in (i := 1084) (by decide +kernel) rfl
theorem w1085 : Cond.code yX12_turn cX12_turn 6 (some (Jvm.ClassFile.FieldType.int)) ∈ lw_good := lw_in (i := 1085) (by decide +kernel) rfl
theorem w1086 : Cond.methodLink RX12 73 yX12_trip ∈ lw_good := lw_in (i := 1086) (by decide +kernel) rfl
theorem w1088 : Cond.instanceMethod yX12_trip ∈ lw_good := lw_in (i := 1088) (by decide +kernel) rfl
theorem w1089 : Cond.code yX12_trip cX12_trip 8 (some (Jvm.ClassFile.FieldType.int)) ∈ lw_good := lw_in (i := 1089) (by decide +kernel) rfl
theorem w1090 : Cond.methodLink RX12 70 yX12_load ∈ lw_good := lw_in (i := 1090) (by decide +kernel) rfl
theorem w1092 : Cond.instanceMethod yX12_load ∈ lw_good := lw_in (i := 1092) (by decide +kernel) rfl
theorem w1093 : Cond.code yX12_load cX12_load 7 (some (Jvm.ClassFile.FieldType.int)) ∈ lw_good := lw_in (i := 1093) (by decide +kernel) rfl
theorem w1094 : Cond.methodLink RX12 61 yX12_loadOfLamp ∈ lw_good := lw_in (i := 1094) (by decide +kernel) rfl
theorem w1096 : Cond.instanceMethod yX12_loadOfLamp ∈ lw_good := lw_in (i := 1096) (by decide +kernel) rfl
theorem w1097 : Cond.code yX12_loadOfLamp cX12_loadOfLamp 4 (some (Jvm.ClassFile.FieldType.int)) ∈ lw_good := lw_in (i := 1097) (by decide +kernel) rfl
theorem w1098 : Cond.methodLink RL 126 yX12_put ∈ lw_good := lw_in (i := 1098) (by decide +kernel) rfl
theorem w1099 : Cond.instanceMethod yX12_put ∈ lw_good := lw_in (i := 1099) (by decide +kernel) rfl
theorem w1100 : Cond.selects RX12 yX12_put yX12_put ∈ lw_good := lw_in (i := 1100) (by decide +kernel) rfl
theorem w1101 : Cond.code yX12_put cX12_put 8 (some (Jvm.ClassFile.FieldType.int)) ∈ lw_good := lw_in (i := 1101) (by decide +kernel) rfl
theorem w1102 : Cond.constantLong RX12 116 255 ∈ lw_good := lw_in (i := 1102) (by decide +kernel) rfl
theorem w1103 : Cond.methodLink RL 131 yX12_wipe ∈ lw_good := lw_in (i := 1103) (by decide +kernel) rfl
theorem w1104 : Cond.instanceMethod yX12_wipe ∈ lw_good := lw_in (i := 1104) (by decide +kernel) rfl
theorem w1105 : Cond.selects RX12 yX12_wipe yX12_wipe ∈ lw_good := lw_in (i := 1105) (by decide +kernel) rfl
theorem w1106 : Cond.code yX12_wipe cX12_wipe 2 (some (Jvm.ClassFile.FieldType.int)) ∈ lw_good := lw_in (i := 1106) (by decide +kernel) rfl
theorem w1107 : Cond.methodLink RL 135 yX12_fault ∈ lw_good := lw_in (i := 1107) (by decide +kernel) rfl
theorem w1108 : Cond.instanceMethod yX12_fault ∈ lw_good := lw_in (i := 1108) (by decide +kernel) rfl
theorem w1109 : Cond.selects RX12 yX12_fault yX12_fault ∈ lw_good := lw_in (i := 1109) (by decide +kernel) rfl
theorem w1110 : Cond.code yX12_fault cX12_fault 2 (some (Jvm.ClassFile.FieldType.int)) ∈ lw_good := lw_in (i := 1110) (by decide +kernel) rfl
theorem w1111 : Cond.methodLink RX12 161 yX12_goThrough ∈ lw_good := lw_in (i := 1111) (by decide +kernel) rfl
theorem w1113 : Cond.instanceMethod yX12_goThrough ∈ lw_good := lw_in (i := 1113) (by decide +kernel) rfl
theorem w1114 : Cond.code yX12_goThrough cX12_goThrough 7 (some (Jvm.ClassFile.FieldType.int)) ∈ lw_good := lw_in (i := 1114) (by decide +kernel) rfl
theorem w1115 : Cond.methodLink RX12 155 yX12_order ∈ lw_good := lw_in (i := 1115) (by decide +kernel) rfl
theorem w1117 : Cond.instanceMethod yX12_order ∈ lw_good := lw_in (i := 1117) (by decide +kernel) rfl
theorem w1118 : Cond.code yX12_order cX12_order 3 none ∈ lw_good := lw_in (i := 1118) (by decide +kernel) rfl
theorem w1119 : Cond.methodLink RX12 146 yX12_readLamps ∈ lw_good := lw_in (i := 1119) (by decide +kernel) rfl
theorem w1121 : Cond.instanceMethod yX12_readLamps ∈ lw_good := lw_in (i := 1121) (by decide +kernel) rfl
theorem w1122 : Cond.code yX12_readLamps cX12_readLamps 6 none ∈ lw_good := lw_in (i := 1122) (by decide +kernel) rfl
theorem w1123 : Cond.methodLink RX12 137 yX12_number ∈ lw_good := lw_in (i := 1123) (by decide +kernel) rfl
theorem w1125 : Cond.instanceMethod yX12_number ∈ lw_good := lw_in (i := 1125) (by decide +kernel) rfl
theorem w1126 : Cond.code yX12_number cX12_number 4 (some (Jvm.ClassFile.FieldType.int)) ∈ lw_good := lw_in (i := 1126) (by decide +kernel) rfl
theorem w1127 : Cond.methodLink RX12 128 yX12_sign ∈ lw_good := lw_in (i := 1127) (by decide +kernel) rfl
theorem w1129 : Cond.instanceMethod yX12_sign ∈ lw_good := lw_in (i := 1129) (by decide +kernel) rfl
theorem w1130 : Cond.code yX12_sign cX12_sign 4 (some (Jvm.ClassFile.FieldType.int)) ∈ lw_good := lw_in (i := 1130) (by decide +kernel) rfl
theorem w1131 : Cond.methodLink RX12 131 yX12_isNext ∈ lw_good := lw_in (i := 1131) (by decide +kernel) rfl
theorem w1133 : Cond.instanceMethod yX12_isNext ∈ lw_good := lw_in (i := 1133) (by decide +kernel) rfl
theorem w1134 : Cond.code yX12_isNext cX12_isNext 3 (some (Jvm.ClassFile.FieldType.boolean)) ∈ lw_good := lw_in (i := 1134) (by decide +kernel) rfl
theorem w1135 : Cond.methodLink RX12 158 yX12_does ∈ lw_good := lw_in (i := 1135) (by decide +kernel) rfl
theorem w1137 : Cond.instanceMethod yX12_does ∈ lw_good := lw_in (i := 1137) (by decide +kernel) rfl
theorem w1138 : Cond.code yX12_does cX12_does 4 (some (Jvm.ClassFile.FieldType.boolean)) ∈ lw_good := lw_in (i := 1138) (by decide +kernel) rfl
theorem w1139 : Cond.methodLink RX12 152 yX12_wants ∈ lw_good := lw_in (i := 1139) (by decide +kernel) rfl
theorem w1141 : Cond.instanceMethod yX12_wants ∈ lw_good := lw_in (i := 1141) (by decide +kernel) rfl
theorem w1142 : Cond.code yX12_wants cX12_wants 6 (some (Jvm.ClassFile.FieldType.boolean)) ∈ lw_good := lw_in (i := 1142) (by decide +kernel) rfl
theorem w1143 : Cond.methodLink RL 71 yX12_carryOut ∈ lw_good := lw_in (i := 1143) (by decide +kernel) rfl
theorem w1144 : Cond.instanceMethod yX12_carryOut ∈ lw_good := lw_in (i := 1144) (by decide +kernel) rfl
theorem w1145 : Cond.selects RX12 yX12_carryOut yX12_carryOut ∈ lw_good := lw_in (i := 1145) (by decide +kernel) rfl
theorem w1146 : Cond.code yX12_carryOut cX12_carryOut 4 (some (Jvm.ClassFile.FieldType.int)) ∈ lw_good := lw_in (i := 1146) (by decide +kernel) rfl
theorem w1147 : Cond.methodLink RL 75 yX12_lamp ∈ lw_good := lw_in (i := 1147) (by decide +kernel) rfl
theorem w1148 : Cond.instanceMethod yX12_lamp ∈ lw_good := lw_in (i := 1148) (by decide +kernel) rfl
theorem w1149 : Cond.selects RX12 yX12_lamp yX12_lamp ∈ lw_good := lw_in (i := 1149) (by decide +kernel) rfl
theorem w1150 : Cond.code yX12_lamp cX12_lamp 4 (some (Jvm.ClassFile.FieldType.int)) ∈ lw_good := lw_in (i := 1150) (by decide +kernel) rfl
theorem w1151 : Cond.methodLink RL 79 yX12_dimmer ∈ lw_good := lw_in (i := 1151) (by decide +kernel) rfl
theorem w1152 : Cond.instanceMethod yX12_dimmer ∈ lw_good := lw_in (i := 1152) (by decide +kernel) rfl
theorem w1153 : Cond.selects RX12 yX12_dimmer yX12_dimmer ∈ lw_good := lw_in (i := 1153) (by decide +kernel) rfl
theorem w1154 : Cond.code yX12_dimmer cX12_dimmer 4 (some (Jvm.ClassFile.FieldType.int)) ∈ lw_good := lw_in (i := 1154) (by decide +kernel) rfl
theorem w1155 : Cond.methodLink RX12 165 yX12_lampsOn ∈ lw_good := lw_in (i := 1155) (by decide +kernel) rfl
theorem w1157 : Cond.instanceMethod yX12_lampsOn ∈ lw_good := lw_in (i := 1157) (by decide +kernel) rfl
theorem w1158 : Cond.code yX12_lampsOn cX12_lampsOn 5 (some (Jvm.ClassFile.FieldType.int)) ∈ lw_good := lw_in (i := 1158) (by decide +kernel) rfl
theorem w1159 : Cond.methodLink RL 83 yX12_phase ∈ lw_good := lw_in (i := 1159) (by decide +kernel) rfl
theorem w1160 : Cond.instanceMethod yX12_phase ∈ lw_good := lw_in (i := 1160) (by decide +kernel) rfl
theorem w1161 : Cond.selects RX12 yX12_phase yX12_phase ∈ lw_good := lw_in (i := 1161) (by decide +kernel) rfl
theorem w1162 : Cond.code yX12_phase cX12_phase 4 (some (Jvm.ClassFile.FieldType.int)) ∈ lw_good := lw_in (i := 1162) (by decide +kernel) rfl
theorem w1163 : Cond.methodLink RX12 168 yX12_dimmersOf ∈ lw_good := lw_in (i := 1163) (by decide +kernel) rfl
theorem w1165 : Cond.instanceMethod yX12_dimmersOf ∈ lw_good := lw_in (i := 1165) (by decide +kernel) rfl
theorem w1166 : Cond.code yX12_dimmersOf cX12_dimmersOf 5 (some (Jvm.ClassFile.FieldType.int)) ∈ lw_good := lw_in (i := 1166) (by decide +kernel) rfl
theorem w1167 : Cond.methodLink RL 87 yX12_cue ∈ lw_good := lw_in (i := 1167) (by decide +kernel) rfl
theorem w1168 : Cond.instanceMethod yX12_cue ∈ lw_good := lw_in (i := 1168) (by decide +kernel) rfl
theorem w1169 : Cond.selects RX12 yX12_cue yX12_cue ∈ lw_good := lw_in (i := 1169) (by decide +kernel) rfl
theorem w1170 : Cond.code yX12_cue cX12_cue 5 (some (Jvm.ClassFile.FieldType.int)) ∈ lw_good := lw_in (i := 1170) (by decide +kernel) rfl
theorem w1171 : Cond.methodLink RL 91 yX12_inCue ∈ lw_good := lw_in (i := 1171) (by decide +kernel) rfl
theorem w1172 : Cond.instanceMethod yX12_inCue ∈ lw_good := lw_in (i := 1172) (by decide +kernel) rfl
theorem w1173 : Cond.selects RX12 yX12_inCue yX12_inCue ∈ lw_good := lw_in (i := 1173) (by decide +kernel) rfl
theorem w1174 : Cond.code yX12_inCue cX12_inCue 4 (some (Jvm.ClassFile.FieldType.int)) ∈ lw_good := lw_in (i := 1174) (by decide +kernel) rfl
theorem w1175 : Cond.methodLink RL 95 yX12_of ∈ lw_good := lw_in (i := 1175) (by decide +kernel) rfl
theorem w1176 : Cond.instanceMethod yX12_of ∈ lw_good := lw_in (i := 1176) (by decide +kernel) rfl
theorem w1177 : Cond.selects RX12 yX12_of yX12_of ∈ lw_good := lw_in (i := 1177) (by decide +kernel) rfl
theorem w1178 : Cond.code yX12_of cX12_of 3 (some (Jvm.ClassFile.FieldType.int)) ∈ lw_good := lw_in (i := 1178) (by decide +kernel) rfl
theorem w1179 : Cond.methodLink RX12 171 yX12_recorded ∈ lw_good := lw_in (i := 1179) (by decide +kernel) rfl
theorem w1181 : Cond.instanceMethod yX12_recorded ∈ lw_good := lw_in (i := 1181) (by decide +kernel) rfl
theorem w1182 : Cond.code yX12_recorded cX12_recorded 4 (some (Jvm.ClassFile.FieldType.int)) ∈ lw_good := lw_in (i := 1182) (by decide +kernel) rfl
theorem w1183 : Cond.methodLink RX12 174 yX12_loadOf ∈ lw_good := lw_in (i := 1183) (by decide +kernel) rfl
theorem w1185 : Cond.instanceMethod yX12_loadOf ∈ lw_good := lw_in (i := 1185) (by decide +kernel) rfl
theorem w1186 : Cond.code yX12_loadOf cX12_loadOf 2 (some (Jvm.ClassFile.FieldType.int)) ∈ lw_good := lw_in (i := 1186) (by decide +kernel) rfl
theorem w1187 : Cond.methodLink RX12 177 yX12_tripped ∈ lw_good := lw_in (i := 1187) (by decide +kernel) rfl
theorem w1189 : Cond.instanceMethod yX12_tripped ∈ lw_good := lw_in (i := 1189) (by decide +kernel) rfl
theorem w1190 : Cond.code yX12_tripped cX12_tripped 6 (some (Jvm.ClassFile.FieldType.int)) ∈ lw_good := lw_in (i := 1190) (by decide +kernel) rfl
theorem w1191 : Cond.methodLink RX12 180 yX12_apart ∈ lw_good := lw_in (i := 1191) (by decide +kernel) rfl
theorem w1193 : Cond.instanceMethod yX12_apart ∈ lw_good := lw_in (i := 1193) (by decide +kernel) rfl
theorem w1194 : Cond.code yX12_apart cX12_apart 6 (some (Jvm.ClassFile.FieldType.int)) ∈ lw_good := lw_in (i := 1194) (by decide +kernel) rfl
theorem w1195 : Cond.methodLink RL 99 yX12_hire ∈ lw_good := lw_in (i := 1195) (by decide +kernel) rfl
theorem w1196 : Cond.instanceMethod yX12_hire ∈ lw_good := lw_in (i := 1196) (by decide +kernel) rfl
theorem w1197 : Cond.selects RX12 yX12_hire yX12_hire ∈ lw_good := lw_in (i := 1197) (by decide +kernel) rfl
theorem w1198 : Cond.code yX12_hire cX12_hire 4 (some (Jvm.ClassFile.FieldType.int)) ∈ lw_good := lw_in (i := 1198) (by decide +kernel) rfl
theorem w1199 : Cond.methodLink RX12 186 yX12_hired ∈ lw_good := lw_in (i := 1199) (by decide +kernel) rfl
theorem w1201 : Cond.instanceMethod yX12_hired ∈ lw_good := lw_in (i := 1201) (by decide +kernel) rfl
theorem w1202 : Cond.code yX12_hired cX12_hired 7 (some (Jvm.ClassFile.FieldType.int)) ∈ lw_good := lw_in (i := 1202) (by decide +kernel) rfl
theorem w1203 : Cond.methodLink RX12 183 yX12_needed ∈ lw_good := lw_in (i := 1203) (by decide +kernel) rfl
theorem w1205 : Cond.instanceMethod yX12_needed ∈ lw_good := lw_in (i := 1205) (by decide +kernel) rfl
theorem w1206 : Cond.code yX12_needed cX12_needed 6 (some (Jvm.ClassFile.FieldType.int)) ∈ lw_good := lw_in (i := 1206) (by decide +kernel) rfl
theorem w1207 : Cond.methodLink RL 103 yX12_count ∈ lw_good := lw_in (i := 1207) (by decide +kernel) rfl
theorem w1208 : Cond.instanceMethod yX12_count ∈ lw_good := lw_in (i := 1208) (by decide +kernel) rfl
theorem w1209 : Cond.selects RX12 yX12_count yX12_count ∈ lw_good := lw_in (i := 1209) (by decide +kernel) rfl
theorem w1210 : Cond.code yX12_count cX12_count 2 (some (Jvm.ClassFile.FieldType.int)) ∈ lw_good := lw_in (i := 1210) (by decide +kernel) rfl
theorem w1211 : Cond.methodLink RX12 189 yX12_sum ∈ lw_good := lw_in (i := 1211) (by decide +kernel) rfl
theorem w1213 : Cond.instanceMethod yX12_sum ∈ lw_good := lw_in (i := 1213) (by decide +kernel) rfl
theorem w1214 : Cond.code yX12_sum cX12_sum 4 (some (Jvm.ClassFile.FieldType.int)) ∈ lw_good := lw_in (i := 1214) (by decide +kernel) rfl
theorem w1215 : Cond.methodLink RX12 192 yX12_fullest ∈ lw_good := lw_in (i := 1215) (by decide +kernel) rfl
theorem w1217 : Cond.instanceMethod yX12_fullest ∈ lw_good := lw_in (i := 1217) (by decide +kernel) rfl
theorem w1218 : Cond.code yX12_fullest cX12_fullest 6 (some (Jvm.ClassFile.FieldType.int)) ∈ lw_good := lw_in (i := 1218) (by decide +kernel) rfl
theorem w1219 : Cond.methodLink RL 107 yX12_ifGo ∈ lw_good := lw_in (i := 1219) (by decide +kernel) rfl
theorem w1220 : Cond.instanceMethod yX12_ifGo ∈ lw_good := lw_in (i := 1220) (by decide +kernel) rfl
theorem w1221 : Cond.selects RX12 yX12_ifGo yX12_ifGo ∈ lw_good := lw_in (i := 1221) (by decide +kernel) rfl
theorem w1222 : Cond.code yX12_ifGo cX12_ifGo 4 (some (Jvm.ClassFile.FieldType.int)) ∈ lw_good := lw_in (i := 1222) (by decide +kernel) rfl
theorem w1223 : Cond.methodLink RX12 214 yX12_tryOut ∈ lw_good := lw_in (i := 1223) (by decide +kernel) rfl
theorem w1225 : Cond.instanceMethod yX12_tryOut ∈ lw_good := lw_in (i := 1225) (by decide +kernel) rfl
theorem w1226 : Cond.code yX12_tryOut cX12_tryOut 8 none ∈ lw_good := lw_in (i := 1226) (by decide +kernel) rfl
theorem w1227 : Cond.methodLink RX12 196 yX12_putAside ∈ lw_good := lw_in (i := 1227) (by decide +kernel) rfl
theorem w1229 : Cond.instanceMethod yX12_putAside ∈ lw_good := lw_in (i := 1229) (by decide +kernel) rfl
theorem w1230 : Cond.code yX12_putAside cX12_putAside 2 none ∈ lw_good := lw_in (i := 1230) (by decide +kernel) rfl
theorem w1231 : Cond.methodLink RX12 211 yX12_putBack ∈ lw_good := lw_in (i := 1231) (by decide +kernel) rfl
theorem w1233 : Cond.instanceMethod yX12_putBack ∈ lw_good := lw_in (i := 1233) (by decide +kernel) rfl
theorem w1234 : Cond.code yX12_putBack cX12_putBack 2 none ∈ lw_good := lw_in (i := 1234) (by decide +kernel) rfl
theorem w1235 : Cond.methodLink RL 111 yX12_safeTicks ∈ lw_good := lw_in (i := 1235) (by decide +kernel) rfl
theorem w1236 : Cond.instanceMethod yX12_safeTicks ∈ lw_good := lw_in (i := 1236) (by decide +kernel) rfl
theorem w1237 : Cond.selects RX12 yX12_safeTicks yX12_safeTicks ∈ lw_good := lw_in (i := 1237) (by decide +kernel) rfl
theorem w1238 : Cond.code yX12_safeTicks cX12_safeTicks 5 (some (Jvm.ClassFile.FieldType.int)) ∈ lw_good := lw_in (i := 1238) (by decide +kernel) rfl
theorem w1239 : Cond.methodLink RL 115 yX12_bestFeed ∈ lw_good := lw_in (i := 1239) (by decide +kernel) rfl
theorem w1240 : Cond.instanceMethod yX12_bestFeed ∈ lw_good := lw_in (i := 1240) (by decide +kernel) rfl
theorem w1241 : Cond.selects RX12 yX12_bestFeed yX12_bestFeed ∈ lw_good := lw_in (i := 1241) (by decide +kernel) rfl
theorem w1242 : Cond.code yX12_bestFeed cX12_bestFeed 10 (some (Jvm.ClassFile.FieldType.int)) ∈ lw_good := lw_in (i := 1242) (by decide +kernel) rfl
theorem w1243 : Cond.methodLink RL 119 yX12_ifDays ∈ lw_good := lw_in (i := 1243) (by decide +kernel) rfl
theorem w1244 : Cond.instanceMethod yX12_ifDays ∈ lw_good := lw_in (i := 1244) (by decide +kernel) rfl
theorem w1245 : Cond.selects RX12 yX12_ifDays yX12_ifDays ∈ lw_good := lw_in (i := 1245) (by decide +kernel) rfl
theorem w1246 : Cond.code yX12_ifDays cX12_ifDays 7 (some (Jvm.ClassFile.FieldType.int)) ∈ lw_good := lw_in (i := 1246) (by decide +kernel) rfl
theorem w1247 : Cond.methodLink RL 139 yX12_undo ∈ lw_good := lw_in (i := 1247) (by decide +kernel) rfl
theorem w1248 : Cond.instanceMethod yX12_undo ∈ lw_good := lw_in (i := 1248) (by decide +kernel) rfl
theorem w1249 : Cond.selects RX12 yX12_undo yX12_undo ∈ lw_good := lw_in (i := 1249) (by decide +kernel) rfl
theorem w1250 : Cond.code yX12_undo cX12_undo 2 (some (Jvm.ClassFile.FieldType.int)) ∈ lw_good := lw_in (i := 1250) (by decide +kernel) rfl
theorem w1251 : Cond.methodLink RL 143 yX12_save ∈ lw_good := lw_in (i := 1251) (by decide +kernel) rfl
theorem w1252 : Cond.instanceMethod yX12_save ∈ lw_good := lw_in (i := 1252) (by decide +kernel) rfl
theorem w1253 : Cond.selects RX12 yX12_save yX12_save ∈ lw_good := lw_in (i := 1253) (by decide +kernel) rfl
theorem w1254 : Cond.code yX12_save cX12_save 3 (some (Jvm.ClassFile.FieldType.int)) ∈ lw_good := lw_in (i := 1254) (by decide +kernel) rfl
theorem w1255 : Cond.methodLink RX12 217 yX12_lamps ∈ lw_good := lw_in (i := 1255) (by decide +kernel) rfl
theorem w1257 : Cond.instanceMethod yX12_lamps ∈ lw_good := lw_in (i := 1257) (by decide +kernel) rfl
theorem w1258 : Cond.code yX12_lamps cX12_lamps 1 (some (Jvm.ClassFile.FieldType.int)) ∈ lw_good := lw_in (i := 1258) (by decide +kernel) rfl
theorem w1259 : Cond.methodLink RL 147 yX12_restore ∈ lw_good := lw_in (i := 1259) (by decide +kernel) rfl
theorem w1260 : Cond.instanceMethod yX12_restore ∈ lw_good := lw_in (i := 1260) (by decide +kernel) rfl
theorem w1261 : Cond.selects RX12 yX12_restore yX12_restore ∈ lw_good := lw_in (i := 1261) (by decide +kernel) rfl
theorem w1262 : Cond.code yX12_restore cX12_restore 3 (some (Jvm.ClassFile.FieldType.int)) ∈ lw_good := lw_in (i := 1262) (by decide +kernel) rfl
theorem w1263 : Cond.constantLong RL 120 4294967295 ∈ lw_good := lw_in (i := 1263) (by decide +kernel) rfl
theorem wp0 : Cond.selects RX2 yX2_dropOldest yX2_dropOldest ∈ lw_good := lw_inP (i := 0) (by decide +kernel) rfl
theorem wp1 : Cond.selects RX3 yX3_add yX3_add ∈ lw_good := lw_inP (i := 1) (by decide +kernel) rfl
theorem wp2 : Cond.selects RX6 yX6_isFed yX6_isFed ∈ lw_good := lw_inP (i := 2) (by decide +kernel) rfl
theorem wp3 : Cond.selects RX4 yX4_stepTo yX4_stepTo ∈ lw_good := lw_inP (i := 3) (by decide +kernel) rfl
theorem wp4 : Cond.selects RX4 yX4_readOrder yX4_readOrder ∈ lw_good := lw_inP (i := 4) (by decide +kernel) rfl
theorem wp5 : Cond.selects RX4 yX4_take yX4_take ∈ lw_good := lw_inP (i := 5) (by decide +kernel) rfl
theorem wp6 : Cond.selects RX4 yX4_readRecord yX4_readRecord ∈ lw_good := lw_inP (i := 6) (by decide +kernel) rfl
theorem wp7 : Cond.selects RX4 yX4_readNumber yX4_readNumber ∈ lw_good := lw_inP (i := 7) (by decide +kernel) rfl
theorem wp8 : Cond.selects RX4 yX4_digitHere yX4_digitHere ∈ lw_good := lw_inP (i := 8) (by decide +kernel) rfl
theorem wp9 : Cond.selects RX4 yX4_note yX4_note ∈ lw_good := lw_inP (i := 9) (by decide +kernel) rfl
theorem wp10 : Cond.selects RX4 yX4_readGo yX4_readGo ∈ lw_good := lw_inP (i := 10) (by decide +kernel) rfl
theorem wp11 : Cond.selects RX4 yX4_readLevels yX4_readLevels ∈ lw_good := lw_inP (i := 11) (by decide +kernel) rfl
theorem wp12 : Cond.selects RX4 yX4_readSpan yX4_readSpan ∈ lw_good := lw_inP (i := 12) (by decide +kernel) rfl
theorem wp13 : Cond.selects RX4 yX4_carryOneOut yX4_carryOneOut ∈ lw_good := lw_inP (i := 13) (by decide +kernel) rfl
theorem wp14 : Cond.selects RX4 yX4_changeLevels yX4_changeLevels ∈ lw_good := lw_inP (i := 14) (by decide +kernel) rfl
theorem wp15 : Cond.selects RX4 yX4_changeSpan yX4_changeSpan ∈ lw_good := lw_inP (i := 15) (by decide +kernel) rfl
theorem wp16 : Cond.selects RX4 yX4_startRecorded yX4_startRecorded ∈ lw_good := lw_inP (i := 16) (by decide +kernel) rfl
theorem wp17 : Cond.selects RX7 yX7_neededOn yX7_neededOn ∈ lw_good := lw_inP (i := 17) (by decide +kernel) rfl
theorem wp18 : Cond.selects RX8 yX8_begin yX8_begin ∈ lw_good := lw_inP (i := 18) (by decide +kernel) rfl
theorem wp19 : Cond.selects RX12 yX12_know yX12_know ∈ lw_good := lw_inP (i := 19) (by decide +kernel) rfl
theorem wp20 : Cond.selects RX12 yX12_isLamp yX12_isLamp ∈ lw_good := lw_inP (i := 20) (by decide +kernel) rfl
theorem wp21 : Cond.selects RX12 yX12_worst yX12_worst ∈ lw_good := lw_inP (i := 21) (by decide +kernel) rfl
theorem wp22 : Cond.selects RX12 yX12_loadBy yX12_loadBy ∈ lw_good := lw_inP (i := 22) (by decide +kernel) rfl
theorem wp23 : Cond.selects RX12 yX12_watts yX12_watts ∈ lw_good := lw_inP (i := 23) (by decide +kernel) rfl
theorem wp24 : Cond.selects RX12 yX12_atFault yX12_atFault ∈ lw_good := lw_inP (i := 24) (by decide +kernel) rfl
theorem wp25 : Cond.selects RX12 yX12_recordFault yX12_recordFault ∈ lw_good := lw_inP (i := 25) (by decide +kernel) rfl
theorem wp26 : Cond.selects RX12 yX12_records yX12_records ∈ lw_good := lw_inP (i := 26) (by decide +kernel) rfl
theorem wp27 : Cond.selects RX12 yX12_goFault yX12_goFault ∈ lw_good := lw_inP (i := 27) (by decide +kernel) rfl
theorem wp28 : Cond.selects RX12 yX12_start yX12_start ∈ lw_good := lw_inP (i := 28) (by decide +kernel) rfl
theorem wp29 : Cond.selects RX12 yX12_resets yX12_resets ∈ lw_good := lw_inP (i := 29) (by decide +kernel) rfl
theorem wp30 : Cond.selects RX12 yX12_turn yX12_turn ∈ lw_good := lw_inP (i := 30) (by decide +kernel) rfl
theorem wp31 : Cond.selects RX12 yX12_trip yX12_trip ∈ lw_good := lw_inP (i := 31) (by decide +kernel) rfl
theorem wp32 : Cond.selects RX12 yX12_load yX12_load ∈ lw_good := lw_inP (i := 32) (by decide +kernel) rfl
theorem wp33 : Cond.selects RX12 yX12_loadOfLamp yX12_loadOfLamp ∈ lw_good := lw_inP (i := 33) (by decide +kernel) rfl
theorem wp34 : Cond.selects RX12 yX12_goThrough yX12_goThrough ∈ lw_good := lw_inP (i := 34) (by decide +kernel) rfl
theorem wp35 : Cond.selects RX12 yX12_order yX12_order ∈ lw_good := lw_inP (i := 35) (by decide +kernel) rfl
theorem wp36 : Cond.selects RX12 yX12_readLamps yX12_readLamps ∈ lw_good := lw_inP (i := 36) (by decide +kernel) rfl
theorem wp37 : Cond.selects RX12 yX12_number yX12_number ∈ lw_good := lw_inP (i := 37) (by decide +kernel) rfl
theorem wp38 : Cond.selects RX12 yX12_sign yX12_sign ∈ lw_good := lw_inP (i := 38) (by decide +kernel) rfl
theorem wp39 : Cond.selects RX12 yX12_isNext yX12_isNext ∈ lw_good := lw_inP (i := 39) (by decide +kernel) rfl
theorem wp40 : Cond.selects RX12 yX12_does yX12_does ∈ lw_good := lw_inP (i := 40) (by decide +kernel) rfl
theorem wp41 : Cond.selects RX12 yX12_wants yX12_wants ∈ lw_good := lw_inP (i := 41) (by decide +kernel) rfl
theorem wp42 : Cond.selects RX12 yX12_lampsOn yX12_lampsOn ∈ lw_good := lw_inP (i := 42) (by decide +kernel) rfl
theorem wp43 : Cond.selects RX12 yX12_dimmersOf yX12_dimmersOf ∈ lw_good := lw_inP (i := 43) (by decide +kernel) rfl
theorem wp44 : Cond.selects RX12 yX12_recorded yX12_recorded ∈ lw_good := lw_inP (i := 44) (by decide +kernel) rfl
theorem wp45 : Cond.selects RX12 yX12_loadOf yX12_loadOf ∈ lw_good := lw_inP (i := 45) (by decide +kernel) rfl
theorem wp46 : Cond.selects RX12 yX12_tripped yX12_tripped ∈ lw_good := lw_inP (i := 46) (by decide +kernel) rfl
theorem wp47 : Cond.selects RX12 yX12_apart yX12_apart ∈ lw_good := lw_inP (i := 47) (by decide +kernel) rfl
theorem wp48 : Cond.selects RX12 yX12_hired yX12_hired ∈ lw_good := lw_inP (i := 48) (by decide +kernel) rfl
theorem wp49 : Cond.selects RX12 yX12_needed yX12_needed ∈ lw_good := lw_inP (i := 49) (by decide +kernel) rfl
theorem wp50 : Cond.selects RX12 yX12_sum yX12_sum ∈ lw_good := lw_inP (i := 50) (by decide +kernel) rfl
theorem wp51 : Cond.selects RX12 yX12_fullest yX12_fullest ∈ lw_good := lw_inP (i := 51) (by decide +kernel) rfl
theorem wp52 : Cond.selects RX12 yX12_tryOut yX12_tryOut ∈ lw_good := lw_inP (i := 52) (by decide +kernel) rfl
theorem wp53 : Cond.selects RX12 yX12_putAside yX12_putAside ∈ lw_good := lw_inP (i := 53) (by decide +kernel) rfl
theorem wp54 : Cond.selects RX12 yX12_putBack yX12_putBack ∈ lw_good := lw_inP (i := 54) (by decide +kernel) rfl
theorem wp55 : Cond.selects RX12 yX12_lamps yX12_lamps ∈ lw_good := lw_inP (i := 55) (by decide +kernel) rfl
theorem inRX0 : ∀ w ∈ u_ws RX0 TX0 2, w ∈ lw_good := by
  show ∀ w ∈ [u_lay RX0 TX0 0, u_lay RX0 TX0 1], w ∈ lw_good
  exact List.forall_mem_cons.mpr ⟨w99, List.forall_mem_cons.mpr ⟨w101, (fun _ h => absurd h List.not_mem_nil)⟩⟩
theorem inRX1 : ∀ w ∈ u_ws RX1 TX1 4, w ∈ lw_good := by
  show ∀ w ∈ [u_lay RX1 TX1 0, u_lay RX1 TX1 1, u_lay RX1 TX1 2, u_lay RX1 TX1 3], w ∈ lw_good
  exact List.forall_mem_cons.mpr ⟨w80, List.forall_mem_cons.mpr ⟨w82, List.forall_mem_cons.mpr ⟨w84, List.forall_mem_cons.mpr ⟨w86, (fun _ h => absurd h List.not_mem_nil)⟩⟩⟩⟩
theorem inRX2 : ∀ w ∈ u_ws RX2 TX2 2, w ∈ lw_good := by
  show ∀ w ∈ [u_lay RX2 TX2 0, u_lay RX2 TX2 1], w ∈ lw_good
  exact List.forall_mem_cons.mpr ⟨w191, List.forall_mem_cons.mpr ⟨w193, (fun _ h => absurd h List.not_mem_nil)⟩⟩
theorem inRX3 : ∀ w ∈ u_ws RX3 TX3 2, w ∈ lw_good := by
  show ∀ w ∈ [u_lay RX3 TX3 0, u_lay RX3 TX3 1], w ∈ lw_good
  exact List.forall_mem_cons.mpr ⟨w270, List.forall_mem_cons.mpr ⟨w272, (fun _ h => absurd h List.not_mem_nil)⟩⟩
theorem inRX4 : ∀ w ∈ u_ws RX4 TX4 11, w ∈ lw_good := by
  show ∀ w ∈ [u_lay RX4 TX4 0, u_lay RX4 TX4 1, u_lay RX4 TX4 2, u_lay RX4 TX4 3, u_lay RX4 TX4 4, u_lay RX4 TX4 5, u_lay RX4 TX4 6, u_lay RX4 TX4 7, u_lay RX4 TX4 8, u_lay RX4 TX4 9, u_lay RX4 TX4 10], w ∈ lw_good
  exact List.forall_mem_cons.mpr ⟨w231, List.forall_mem_cons.mpr ⟨w233, List.forall_mem_cons.mpr ⟨w235, List.forall_mem_cons.mpr ⟨w237, List.forall_mem_cons.mpr ⟨w239, List.forall_mem_cons.mpr ⟨w241, List.forall_mem_cons.mpr ⟨w243, List.forall_mem_cons.mpr ⟨w245, List.forall_mem_cons.mpr ⟨w247, List.forall_mem_cons.mpr ⟨w249, List.forall_mem_cons.mpr ⟨w251, (fun _ h => absurd h List.not_mem_nil)⟩⟩⟩⟩⟩⟩⟩⟩⟩⟩⟩
theorem inRX5 : ∀ w ∈ u_ws RX5 TX5 2, w ∈ lw_good := by
  show ∀ w ∈ [u_lay RX5 TX5 0, u_lay RX5 TX5 1], w ∈ lw_good
  exact List.forall_mem_cons.mpr ⟨w213, List.forall_mem_cons.mpr ⟨w215, (fun _ h => absurd h List.not_mem_nil)⟩⟩
theorem inRX6 : ∀ w ∈ u_ws RX6 TX6 13, w ∈ lw_good := by
  show ∀ w ∈ [u_lay RX6 TX6 0, u_lay RX6 TX6 1, u_lay RX6 TX6 2, u_lay RX6 TX6 3, u_lay RX6 TX6 4, u_lay RX6 TX6 5, u_lay RX6 TX6 6, u_lay RX6 TX6 7, u_lay RX6 TX6 8, u_lay RX6 TX6 9, u_lay RX6 TX6 10, u_lay RX6 TX6 11, u_lay RX6 TX6 12], w ∈ lw_good
  exact List.forall_mem_cons.mpr ⟨w136, List.forall_mem_cons.mpr ⟨w138, List.forall_mem_cons.mpr ⟨w140, List.forall_mem_cons.mpr ⟨w142, List.forall_mem_cons.mpr ⟨w144, List.forall_mem_cons.mpr ⟨w146, List.forall_mem_cons.mpr ⟨w148, List.forall_mem_cons.mpr ⟨w150, List.forall_mem_cons.mpr ⟨w152, List.forall_mem_cons.mpr ⟨w154, List.forall_mem_cons.mpr ⟨w156, List.forall_mem_cons.mpr ⟨w158, List.forall_mem_cons.mpr ⟨w160, (fun _ h => absurd h List.not_mem_nil)⟩⟩⟩⟩⟩⟩⟩⟩⟩⟩⟩⟩⟩
theorem inRX7 : ∀ w ∈ u_ws RX7 TX7 3, w ∈ lw_good := by
  show ∀ w ∈ [u_lay RX7 TX7 0, u_lay RX7 TX7 1, u_lay RX7 TX7 2], w ∈ lw_good
  exact List.forall_mem_cons.mpr ⟨w172, List.forall_mem_cons.mpr ⟨w174, List.forall_mem_cons.mpr ⟨w176, (fun _ h => absurd h List.not_mem_nil)⟩⟩⟩
theorem inRX8 : ∀ w ∈ u_ws RX8 TX8 5, w ∈ lw_good := by
  show ∀ w ∈ [u_lay RX8 TX8 0, u_lay RX8 TX8 1, u_lay RX8 TX8 2, u_lay RX8 TX8 3, u_lay RX8 TX8 4], w ∈ lw_good
  exact List.forall_mem_cons.mpr ⟨w308, List.forall_mem_cons.mpr ⟨w310, List.forall_mem_cons.mpr ⟨w312, List.forall_mem_cons.mpr ⟨w314, List.forall_mem_cons.mpr ⟨w316, (fun _ h => absurd h List.not_mem_nil)⟩⟩⟩⟩⟩
theorem inRX9 : ∀ w ∈ u_ws RX9 TX9 4, w ∈ lw_good := by
  show ∀ w ∈ [u_lay RX9 TX9 0, u_lay RX9 TX9 1, u_lay RX9 TX9 2, u_lay RX9 TX9 3], w ∈ lw_good
  exact List.forall_mem_cons.mpr ⟨w51, List.forall_mem_cons.mpr ⟨w53, List.forall_mem_cons.mpr ⟨w55, List.forall_mem_cons.mpr ⟨w57, (fun _ h => absurd h List.not_mem_nil)⟩⟩⟩⟩
theorem inRX10 : ∀ w ∈ u_ws RX10 TX10 2, w ∈ lw_good := by
  show ∀ w ∈ [u_lay RX10 TX10 0, u_lay RX10 TX10 1], w ∈ lw_good
  exact List.forall_mem_cons.mpr ⟨w286, List.forall_mem_cons.mpr ⟨w288, (fun _ h => absurd h List.not_mem_nil)⟩⟩
theorem inRX11 : ∀ w ∈ u_ws RX11 TX11 9, w ∈ lw_good := by
  show ∀ w ∈ [u_lay RX11 TX11 0, u_lay RX11 TX11 1, u_lay RX11 TX11 2, u_lay RX11 TX11 3, u_lay RX11 TX11 4, u_lay RX11 TX11 5, u_lay RX11 TX11 6, u_lay RX11 TX11 7, u_lay RX11 TX11 8], w ∈ lw_good
  exact List.forall_mem_cons.mpr ⟨w328, List.forall_mem_cons.mpr ⟨w330, List.forall_mem_cons.mpr ⟨w332, List.forall_mem_cons.mpr ⟨w334, List.forall_mem_cons.mpr ⟨w336, List.forall_mem_cons.mpr ⟨w338, List.forall_mem_cons.mpr ⟨w340, List.forall_mem_cons.mpr ⟨w342, List.forall_mem_cons.mpr ⟨w344, (fun _ h => absurd h List.not_mem_nil)⟩⟩⟩⟩⟩⟩⟩⟩⟩
theorem inRX12 : ∀ w ∈ u_ws RX12 TX12 21, w ∈ lw_good := by
  show ∀ w ∈ [u_lay RX12 TX12 0, u_lay RX12 TX12 1, u_lay RX12 TX12 2, u_lay RX12 TX12 3, u_lay RX12 TX12 4, u_lay RX12 TX12 5, u_lay RX12 TX12 6, u_lay RX12 TX12 7, u_lay RX12 TX12 8, u_lay RX12 TX12 9, u_lay RX12 TX12 10, u_lay RX12 TX12 11, u_lay RX12 TX12 12, u_lay RX12 TX12 13, u_lay RX12 TX12 14, u_lay RX12 TX12 15, u_lay RX12 TX12 16, u_lay RX12 TX12 17, u_lay RX12 TX12 18, u_lay RX12 TX12 19, u_lay RX12 TX12 20], w ∈ lw_good
  exact List.forall_mem_cons.mpr ⟨w924, List.forall_mem_cons.mpr ⟨w926, List.forall_mem_cons.mpr ⟨w928, List.forall_mem_cons.mpr ⟨w930, List.forall_mem_cons.mpr ⟨w932, List.forall_mem_cons.mpr ⟨w934, List.forall_mem_cons.mpr ⟨w936, List.forall_mem_cons.mpr ⟨w938, List.forall_mem_cons.mpr ⟨w940, List.forall_mem_cons.mpr ⟨w942, List.forall_mem_cons.mpr ⟨w944, List.forall_mem_cons.mpr ⟨w946, List.forall_mem_cons.mpr ⟨w948, List.forall_mem_cons.mpr ⟨w950, List.forall_mem_cons.mpr ⟨w952, List.forall_mem_cons.mpr ⟨w954, List.forall_mem_cons.mpr ⟨w956, List.forall_mem_cons.mpr ⟨w958, List.forall_mem_cons.mpr ⟨w960, List.forall_mem_cons.mpr ⟨w962, List.forall_mem_cons.mpr ⟨w964, (fun _ h => absurd h List.not_mem_nil)⟩⟩⟩⟩⟩⟩⟩⟩⟩⟩⟩⟩⟩⟩⟩⟩⟩⟩⟩⟩⟩
def nestW : List Cond := [Cond.fieldLinkNest RX7 9 "PhaseLights" "FIRST_SETTING" "[I" "PhaseLights", Cond.methodLinkNest RX7 25 yX9_init "PhaseLights", Cond.methodLinkNest RX6 37 yX1_init "PhaseLights", Cond.methodLinkNest RX11 29 yX4_init "PhaseLights", Cond.methodLinkNest RX4 11 yX5_init "PhaseLights", Cond.methodLinkNest RX11 41 yX3_init "PhaseLights", Cond.methodLinkNest RX11 48 yX10_init "PhaseLights", Cond.methodLinkNest RX10 11 yX3_init "PhaseLights", Cond.methodLinkNest RX11 55 yX8_init "PhaseLights", Cond.methodLinkNest RX7 41 yX11_copy "PhaseLights", Cond.methodLinkNest RX9 33 yX11_copy "PhaseLights", Cond.methodLinkNest RX6 64 yX11_copy "PhaseLights", Cond.methodLinkNest RX1 25 yX11_copy "PhaseLights", Cond.methodLinkNest RX0 29 yX11_copy "PhaseLights", Cond.methodLinkNest RX7 37 yX11_isIn "PhaseLights", Cond.methodLinkNest RX6 87 yX11_closeGap "PhaseLights", Cond.methodLinkNest RX1 29 yX11_closeGap "PhaseLights", Cond.methodLinkNest RX3 47 yX11_clear "PhaseLights", Cond.methodLinkNest RX6 95 yX11_isCue "PhaseLights", Cond.methodLinkNest RX3 58 yX11_isDimmer "PhaseLights", Cond.methodLinkNest RX3 61 yX11_isPhase "PhaseLights", Cond.methodLinkNest RX10 32 yX11_raise "PhaseLights", Cond.methodLinkNest RX6 159 yX11_clear "PhaseLights", Cond.methodLinkNest RX6 170 yX11_hasBit "PhaseLights", Cond.methodLinkNest RX0 23 yX11_clear "PhaseLights", Cond.methodLinkNest RX6 75 yX11_isIn "PhaseLights", Cond.methodLinkNest RX8 54 yX11_greatest "PhaseLights"]
theorem wn0 : Cond.fieldLinkNest RX7 9 "PhaseLights" "FIRST_SETTING" "[I" "PhaseLights" ∈ nestW := List.mem_of_getElem? (i := 0) rfl
theorem wn1 : Cond.methodLinkNest RX7 25 yX9_init "PhaseLights" ∈ nestW := List.mem_of_getElem? (i := 1) rfl
theorem wn2 : Cond.methodLinkNest RX6 37 yX1_init "PhaseLights" ∈ nestW := List.mem_of_getElem? (i := 2) rfl
theorem wn3 : Cond.methodLinkNest RX11 29 yX4_init "PhaseLights" ∈ nestW := List.mem_of_getElem? (i := 3) rfl
theorem wn4 : Cond.methodLinkNest RX4 11 yX5_init "PhaseLights" ∈ nestW := List.mem_of_getElem? (i := 4) rfl
theorem wn5 : Cond.methodLinkNest RX11 41 yX3_init "PhaseLights" ∈ nestW := List.mem_of_getElem? (i := 5) rfl
theorem wn6 : Cond.methodLinkNest RX11 48 yX10_init "PhaseLights" ∈ nestW := List.mem_of_getElem? (i := 6) rfl
theorem wn7 : Cond.methodLinkNest RX10 11 yX3_init "PhaseLights" ∈ nestW := List.mem_of_getElem? (i := 7) rfl
theorem wn8 : Cond.methodLinkNest RX11 55 yX8_init "PhaseLights" ∈ nestW := List.mem_of_getElem? (i := 8) rfl
theorem wn9 : Cond.methodLinkNest RX7 41 yX11_copy "PhaseLights" ∈ nestW := List.mem_of_getElem? (i := 9) rfl
theorem wn10 : Cond.methodLinkNest RX9 33 yX11_copy "PhaseLights" ∈ nestW := List.mem_of_getElem? (i := 10) rfl
theorem wn11 : Cond.methodLinkNest RX6 64 yX11_copy "PhaseLights" ∈ nestW := List.mem_of_getElem? (i := 11) rfl
theorem wn12 : Cond.methodLinkNest RX1 25 yX11_copy "PhaseLights" ∈ nestW := List.mem_of_getElem? (i := 12) rfl
theorem wn13 : Cond.methodLinkNest RX0 29 yX11_copy "PhaseLights" ∈ nestW := List.mem_of_getElem? (i := 13) rfl
theorem wn14 : Cond.methodLinkNest RX7 37 yX11_isIn "PhaseLights" ∈ nestW := List.mem_of_getElem? (i := 14) rfl
theorem wn15 : Cond.methodLinkNest RX6 87 yX11_closeGap "PhaseLights" ∈ nestW := List.mem_of_getElem? (i := 15) rfl
theorem wn16 : Cond.methodLinkNest RX1 29 yX11_closeGap "PhaseLights" ∈ nestW := List.mem_of_getElem? (i := 16) rfl
theorem wn17 : Cond.methodLinkNest RX3 47 yX11_clear "PhaseLights" ∈ nestW := List.mem_of_getElem? (i := 17) rfl
theorem wn18 : Cond.methodLinkNest RX6 95 yX11_isCue "PhaseLights" ∈ nestW := List.mem_of_getElem? (i := 18) rfl
theorem wn19 : Cond.methodLinkNest RX3 58 yX11_isDimmer "PhaseLights" ∈ nestW := List.mem_of_getElem? (i := 19) rfl
theorem wn20 : Cond.methodLinkNest RX3 61 yX11_isPhase "PhaseLights" ∈ nestW := List.mem_of_getElem? (i := 20) rfl
theorem wn21 : Cond.methodLinkNest RX10 32 yX11_raise "PhaseLights" ∈ nestW := List.mem_of_getElem? (i := 21) rfl
theorem wn22 : Cond.methodLinkNest RX6 159 yX11_clear "PhaseLights" ∈ nestW := List.mem_of_getElem? (i := 22) rfl
theorem wn23 : Cond.methodLinkNest RX6 170 yX11_hasBit "PhaseLights" ∈ nestW := List.mem_of_getElem? (i := 23) rfl
theorem wn24 : Cond.methodLinkNest RX0 23 yX11_clear "PhaseLights" ∈ nestW := List.mem_of_getElem? (i := 24) rfl
theorem wn25 : Cond.methodLinkNest RX6 75 yX11_isIn "PhaseLights" ∈ nestW := List.mem_of_getElem? (i := 25) rfl
theorem wn26 : Cond.methodLinkNest RX8 54 yX11_greatest "PhaseLights" ∈ nestW := List.mem_of_getElem? (i := 26) rfl
theorem nestW_in : ∀ w ∈ nestW, w ∈ tables_1 := by
  unfold nestW
  exact List.forall_mem_cons.mpr ⟨List.mem_of_getElem? (i := 30) (by decide +kernel), List.forall_mem_cons.mpr ⟨List.mem_of_getElem? (i := 41) (by decide +kernel), List.forall_mem_cons.mpr ⟨List.mem_of_getElem? (i := 72) (by decide +kernel), List.forall_mem_cons.mpr ⟨List.mem_of_getElem? (i := 198) (by decide +kernel), List.forall_mem_cons.mpr ⟨List.mem_of_getElem? (i := 204) (by decide +kernel), List.forall_mem_cons.mpr ⟨List.mem_of_getElem? (i := 256) (by decide +kernel), List.forall_mem_cons.mpr ⟨List.mem_of_getElem? (i := 277) (by decide +kernel), List.forall_mem_cons.mpr ⟨List.mem_of_getElem? (i := 282) (by decide +kernel), List.forall_mem_cons.mpr ⟨List.mem_of_getElem? (i := 293) (by decide +kernel), List.forall_mem_cons.mpr ⟨List.mem_of_getElem? (i := 370) (by decide +kernel), List.forall_mem_cons.mpr ⟨List.mem_of_getElem? (i := 377) (by decide +kernel), List.forall_mem_cons.mpr ⟨List.mem_of_getElem? (i := 382) (by decide +kernel), List.forall_mem_cons.mpr ⟨List.mem_of_getElem? (i := 387) (by decide +kernel), List.forall_mem_cons.mpr ⟨List.mem_of_getElem? (i := 392) (by decide +kernel), List.forall_mem_cons.mpr ⟨List.mem_of_getElem? (i := 414) (by decide +kernel), List.forall_mem_cons.mpr ⟨List.mem_of_getElem? (i := 454) (by decide +kernel), List.forall_mem_cons.mpr ⟨List.mem_of_getElem? (i := 464) (by decide +kernel), List.forall_mem_cons.mpr ⟨List.mem_of_getElem? (i := 488) (by decide +kernel), List.forall_mem_cons.mpr ⟨List.mem_of_getElem? (i := 500) (by decide +kernel), List.forall_mem_cons.mpr ⟨List.mem_of_getElem? (i := 523) (by decide +kernel), List.forall_mem_cons.mpr ⟨List.mem_of_getElem? (i := 524) (by decide +kernel), List.forall_mem_cons.mpr ⟨List.mem_of_getElem? (i := 525) (by decide +kernel), List.forall_mem_cons.mpr ⟨List.mem_of_getElem? (i := 532) (by decide +kernel), List.forall_mem_cons.mpr ⟨List.mem_of_getElem? (i := 536) (by decide +kernel), List.forall_mem_cons.mpr ⟨List.mem_of_getElem? (i := 592) (by decide +kernel), List.forall_mem_cons.mpr ⟨List.mem_of_getElem? (i := 769) (by decide +kernel), List.forall_mem_cons.mpr ⟨List.mem_of_getElem? (i := 832) (by decide +kernel), (fun _ h => absurd h List.not_mem_nil)⟩⟩⟩⟩⟩⟩⟩⟩⟩⟩⟩⟩⟩⟩⟩⟩⟩⟩⟩⟩⟩⟩⟩⟩⟩⟩⟩
def nestOk : Cond → Bool := fun w => match w with
  | .methodLinkNest _ _ _ _ => true
  | .fieldLinkNest _ _ _ _ _ _ => true
  | _ => false
theorem nestW_ok : ∀ w ∈ nestW, nestOk w = true := List.all_eq_true.mp (by decide +kernel)
