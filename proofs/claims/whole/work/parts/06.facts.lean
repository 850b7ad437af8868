/-! rows on cells, fields and fixed references -/
abbrev jb_Ma_floorDiv : ByteArray := prog_16_method_49_code
def jy_Ma_floorDiv : MethodName := ⟨"java/lang/Math", "floorDiv", "(JJ)J"⟩
theorem jqc_Ma_floorDiv : Cond.code jy_Ma_floorDiv jb_Ma_floorDiv 6 (some .long) ∈ j_T := j_in 965 (by decide +kernel) (by decide +kernel)
theorem jqs_Ma_floorDiv : Cond.static jy_Ma_floorDiv ∈ j_T := j_in 964 (by decide +kernel) (by decide +kernel)
abbrev jb_St_coder : ByteArray := prog_17_method_152_code
def jy_St_coder : MethodName := ⟨"java/lang/String", "coder", "()B"⟩
theorem jqc_St_coder : Cond.code jy_St_coder jb_St_coder 1 (some .byte) ∈ j_T := j_in 617 (by decide +kernel) (by decide +kernel)
theorem jqi_St_coder : Cond.instanceMethod jy_St_coder ∈ j_T := j_in 615 (by decide +kernel) (by decide +kernel)
theorem jqv_St_coder : Cond.selects "java/lang/String" jy_St_coder jy_St_coder ∈ j_T := j_in 616 (by decide +kernel) (by decide +kernel)
abbrev jb_St_isLatin1 : ByteArray := prog_17_method_154_code
def jy_St_isLatin1 : MethodName := ⟨"java/lang/String", "isLatin1", "()Z"⟩
theorem jqc_St_isLatin1 : Cond.code jy_St_isLatin1 jb_St_isLatin1 1 (some .boolean) ∈ j_T := j_in 607 (by decide +kernel) (by decide +kernel)
theorem jqi_St_isLatin1 : Cond.instanceMethod jy_St_isLatin1 ∈ j_T := j_in 605 (by decide +kernel) (by decide +kernel)
theorem jqv_St_isLatin1 : Cond.selects "java/lang/String" jy_St_isLatin1 jy_St_isLatin1 ∈ j_T := j_in 606 (by decide +kernel) (by decide +kernel)
abbrev jb_St_length : ByteArray := prog_17_method_54_code
def jy_St_length : MethodName := ⟨"java/lang/String", "length", "()I"⟩
theorem jqc_St_length : Cond.code jy_St_length jb_St_length 1 (some .int) ∈ j_T := j_in 613 (by decide +kernel) (by decide +kernel)
theorem jqi_St_length : Cond.instanceMethod jy_St_length ∈ j_T := j_in 611 (by decide +kernel) (by decide +kernel)
theorem jqv_St_length : Cond.selects "java/lang/String" jy_St_length jy_St_length ∈ j_T := j_in 612 (by decide +kernel) (by decide +kernel)
abbrev jb_Sl_canEncode : ByteArray := prog_18_method_4_code
def jy_Sl_canEncode : MethodName := ⟨"java/lang/StringLatin1", "canEncode", "(I)Z"⟩
theorem jqc_Sl_canEncode : Cond.code jy_Sl_canEncode jb_Sl_canEncode 1 (some .boolean) ∈ j_T := j_in 623 (by decide +kernel) (by decide +kernel)
theorem jqs_Sl_canEncode : Cond.static jy_Sl_canEncode ∈ j_T := j_in 622 (by decide +kernel) (by decide +kernel)
abbrev jb_Sl_indexOfChar : ByteArray := prog_18_method_23_code
def jy_Sl_indexOfChar : MethodName := ⟨"java/lang/StringLatin1", "indexOfChar", "([BIII)I"⟩
theorem jqc_Sl_indexOfChar : Cond.code jy_Sl_indexOfChar jb_Sl_indexOfChar 6 (some .int) ∈ j_T := j_in 630 (by decide +kernel) (by decide +kernel)
theorem jqs_Sl_indexOfChar : Cond.static jy_Sl_indexOfChar ∈ j_T := j_in 629 (by decide +kernel) (by decide +kernel)
abbrev jb_Sl_indexOf : ByteArray := prog_18_method_22_code
def jy_Sl_indexOf : MethodName := ⟨"java/lang/StringLatin1", "indexOf", "([BIII)I"⟩
theorem jqc_Sl_indexOf : Cond.code jy_Sl_indexOf jb_Sl_indexOf 4 (some .int) ∈ j_T := j_in 620 (by decide +kernel) (by decide +kernel)
theorem jqs_Sl_indexOf : Cond.static jy_Sl_indexOf ∈ j_T := j_in 619 (by decide +kernel) (by decide +kernel)
abbrev jb_St_indexOf2 : ByteArray := prog_17_method_80_code
def jy_St_indexOf2 : MethodName := ⟨"java/lang/String", "indexOf", "(II)I"⟩
theorem jqc_St_indexOf2 : Cond.code jy_St_indexOf2 jb_St_indexOf2 3 (some .int) ∈ j_T := j_in 603 (by decide +kernel) (by decide +kernel)
theorem jqi_St_indexOf2 : Cond.instanceMethod jy_St_indexOf2 ∈ j_T := j_in 601 (by decide +kernel) (by decide +kernel)
theorem jqv_St_indexOf2 : Cond.selects "java/lang/String" jy_St_indexOf2 jy_St_indexOf2 ∈ j_T := j_in 602 (by decide +kernel) (by decide +kernel)
abbrev jb_St_indexOf1 : ByteArray := prog_17_method_79_code
def jy_St_indexOf1 : MethodName := ⟨"java/lang/String", "indexOf", "(I)I"⟩
theorem jqc_St_indexOf1 : Cond.code jy_St_indexOf1 jb_St_indexOf1 2 (some .int) ∈ j_T := j_in 599 (by decide +kernel) (by decide +kernel)
theorem jqi_St_indexOf1 : Cond.instanceMethod jy_St_indexOf1 ∈ j_T := j_in 597 (by decide +kernel) (by decide +kernel)
theorem jqv_St_indexOf1 : Cond.selects "java/lang/String" jy_St_indexOf1 jy_St_indexOf1 ∈ j_T := j_in 598 (by decide +kernel) (by decide +kernel)
theorem jqn_St : Cond.initialized "java/lang/String" ∈ j_T := j_in 65 (by decide +kernel) (by decide +kernel)
theorem jqn_Sl : Cond.initialized "java/lang/StringLatin1" ∈ j_T := j_in 66 (by decide +kernel) (by decide +kernel)
theorem jlf_St_38 : Cond.fieldLink "java/lang/String" 38 "java/lang/String" "COMPACT_STRINGS" "Z" ∈ j_T := j_in 608 (by decide +kernel) (by decide +kernel)
theorem jlf_St_15 : Cond.fieldLink "java/lang/String" 15 "java/lang/String" "coder" "B" ∈ j_T := j_in 1502 (by decide +kernel) (by decide +kernel)
theorem jlf_St_9 : Cond.fieldLink "java/lang/String" 9 "java/lang/String" "value" "[B" ∈ j_T := j_in 1503 (by decide +kernel) (by decide +kernel)
theorem jlm_St_335 : Cond.methodLink "java/lang/String" 335 jy_St_coder ∈ j_T := j_in 614 (by decide +kernel) (by decide +kernel)
theorem jlm_Sl_88 : Cond.methodLink "java/lang/StringLatin1" 88 jy_Sl_canEncode ∈ j_T := j_in 621 (by decide +kernel) (by decide +kernel)
theorem jlm_Sl_92 : Cond.methodLink "java/lang/StringLatin1" 92 Lib.Math.max.name ∈ j_T := j_in 624 (by decide +kernel) (by decide +kernel)
theorem jlm_Sl_38 : Cond.methodLink "java/lang/StringLatin1" 38 Lib.Math.min.name ∈ j_T := j_in 627 (by decide +kernel) (by decide +kernel)
theorem jlm_Sl_95 : Cond.methodLink "java/lang/StringLatin1" 95 jy_Sl_indexOfChar ∈ j_T := j_in 628 (by decide +kernel) (by decide +kernel)
theorem jlm_St_492 : Cond.methodLink "java/lang/String" 492 jy_St_isLatin1 ∈ j_T := j_in 604 (by decide +kernel) (by decide +kernel)
theorem jlm_St_505 : Cond.methodLink "java/lang/String" 505 jy_St_length ∈ j_T := j_in 610 (by decide +kernel) (by decide +kernel)
theorem jlm_St_637 : Cond.methodLink "java/lang/String" 637 jy_Sl_indexOf ∈ j_T := j_in 618 (by decide +kernel) (by decide +kernel)
theorem jlm_St_633 : Cond.methodLink "java/lang/String" 633 jy_St_indexOf2 ∈ j_T := j_in 600 (by decide +kernel) (by decide +kernel)
theorem j_ltq {q B c N n : Nat} (hq : q < B) (h : Nat.ble (c + B) N = true) (hn : N ≤ n) : c + q < n := by have := Nat.le_of_ble_eq_true h; omega
theorem j_le {n : Nat} (hn : 260 ≤ n) : 38 ≤ n := by omega
theorem j_Fx.gr {P : j_R} (h : j_Fx 0 260 P) : j_Fx 1 38 P := ⟨fun q hq h1 h2 => h.1 q hq (by omega) (by omega), fun q hq h1 h2 => h.2 q hq (by omega) (by omega)⟩
theorem j_ex {α β : Type} {x : α} {f : α → Option β} {r : β} (h : j_let x f = some r) : ∃ y, y = x ∧ f y = some r := ⟨x, rfl, h⟩
abbrev j_Qi (g : j_G) (b n : Nat) (P : j_R) (below : List Frame) (args : Array Value) (s : State) (r : Int32 × j_M) : State → Prop := MQ below (j_Post g b n r.2 P (some (.int r.1))) args s 0 0 (fun q => b ≤ q)
abbrev j_Qv (g : j_G) (b n : Nat) (P : j_R) (below : List Frame) (args : Array Value) (s : State) (r : Int32 × j_M) : State → Prop := MQ below (j_Post g b n r.2 P none) args s 0 0 (fun q => b ≤ q)
abbrev j_Ql (g : j_G) (b n : Nat) (P : j_R) (below : List Frame) (args : Array Value) (s : State) (r : Int64 × j_M) : State → Prop := MQ below (j_Post g b n r.2 P (some (.long r.1))) args s 0 0 (fun q => b ≤ q)
abbrev j_Qa (g : j_G) (b n : Nat) (P : j_R) (below : List Frame) (args : Array Value) (s : State) (r : Nat × j_M) : State → Prop := MQ below (j_Post g b n r.2 P (some (.ref (b + (43 + r.1))))) args s 0 0 (fun q => b ≤ q)
theorem js_0 : j_sh 0 = (0, 0, 15) := by decide
theorem js_1 : j_sh 1 = (0, 1, 5) := by decide
theorem js_2 : j_sh 2 = (1, 0, 16) := by decide
theorem js_3 : j_sh 3 = (1, 1, 16) := by decide
theorem js_4 : j_sh 4 = (2, 4, 16) := by decide
theorem js_21 : j_sh 21 = (2, 4, 16) := by decide
theorem js_38 : j_sh 38 = (0, 2, 2) := by decide
theorem js_39 : j_sh 39 = (1, 1, 480) := by decide
theorem js_40 : j_sh 40 = (1, 1, 300) := by decide
theorem js_41 : j_sh 41 = (0, 3, 2) := by decide
theorem js_42 : j_sh 42 = (2, 3, 100) := by decide
theorem js_143 : j_sh 143 = (0, 5, 9) := by decide
theorem js_144 : j_sh 144 = (1, 0, 1040) := by decide
theorem js_145 : j_sh 145 = (1, 0, 1040) := by decide
theorem js_146 : j_sh 146 = (1, 0, 1040) := by decide
theorem js_147 : j_sh 147 = (1, 0, 1040) := by decide
theorem js_148 : j_sh 148 = (1, 0, 20) := by decide
theorem js_149 : j_sh 149 = (1, 0, 20) := by decide
theorem js_150 : j_sh 150 = (0, 6, 6) := by decide
theorem js_151 : j_sh 151 = (1, 0, 40) := by decide
theorem js_152 : j_sh 152 = (1, 0, 40) := by decide
theorem js_153 : j_sh 153 = (2, 4, 40) := by decide
theorem js_194 : j_sh 194 = (0, 7, 4) := by decide
theorem js_195 : j_sh 195 = (1, 0, 20) := by decide
theorem js_196 : j_sh 196 = (1, 0, 20) := by decide
theorem js_197 : j_sh 197 = (1, 0, 20) := by decide
theorem js_198 : j_sh 198 = (0, 8, 8) := by decide
theorem js_199 : j_sh 199 = (1, 0, 60) := by decide
theorem js_200 : j_sh 200 = (1, 0, 60) := by decide
theorem js_201 : j_sh 201 = (1, 1, 60) := by decide
theorem js_202 : j_sh 202 = (0, 9, 8) := by decide
theorem js_203 : j_sh 203 = (1, 2, 3720) := by decide
theorem js_204 : j_sh 204 = (1, 0, 30) := by decide
theorem js_205 : j_sh 205 = (1, 0, 30) := by decide
theorem js_206 : j_sh 206 = (1, 0, 30) := by decide
theorem js_207 : j_sh 207 = (1, 0, 30) := by decide
theorem js_208 : j_sh 208 = (0, 10, 6) := by decide
theorem js_209 : j_sh 209 = (1, 0, 8) := by decide
theorem js_210 : j_sh 210 = (1, 2, 0) := by decide
theorem js_211 : j_sh 211 = (0, 11, 4) := by decide
theorem js_212 : j_sh 212 = (1, 0, 200) := by decide
theorem js_213 : j_sh 213 = (1, 0, 200) := by decide
theorem js_214 : j_sh 214 = (1, 0, 200) := by decide
theorem js_215 : j_sh 215 = (0, 12, 71) := by decide
theorem js_216 : j_sh 216 = (1, 0, 16) := by decide
theorem js_217 : j_sh 217 = (1, 1, 16) := by decide
theorem js_218 : j_sh 218 = (1, 0, 256) := by decide
theorem js_219 : j_sh 219 = (1, 0, 20) := by decide
theorem js_220 : j_sh 220 = (1, 0, 20) := by decide
theorem js_221 : j_sh 221 = (1, 0, 16) := by decide
theorem js_222 : j_sh 222 = (1, 1, 300) := by decide
theorem js_223 : j_sh 223 = (1, 0, 100) := by decide
theorem js_224 : j_sh 224 = (1, 0, 100) := by decide
theorem js_225 : j_sh 225 = (1, 0, 100) := by decide
theorem js_226 : j_sh 226 = (1, 0, 100) := by decide
theorem js_227 : j_sh 227 = (1, 0, 100) := by decide
theorem js_228 : j_sh 228 = (1, 0, 100) := by decide
theorem js_229 : j_sh 229 = (1, 0, 100) := by decide
theorem js_230 : j_sh 230 = (1, 0, 100) := by decide
theorem js_231 : j_sh 231 = (1, 0, 100) := by decide
theorem js_232 : j_sh 232 = (1, 0, 100) := by decide
theorem js_233 : j_sh 233 = (1, 2, 48000) := by decide
theorem js_234 : j_sh 234 = (1, 0, 40) := by decide
theorem js_235 : j_sh 235 = (1, 0, 80) := by decide
theorem js_236 : j_sh 236 = (1, 0, 80) := by decide
theorem js_237 : j_sh 237 = (1, 0, 80) := by decide
theorem js_238 : j_sh 238 = (1, 0, 40) := by decide
theorem js_239 : j_sh 239 = (1, 0, 40) := by decide
theorem js_240 : j_sh 240 = (1, 0, 20) := by decide
theorem js_241 : j_sh 241 = (1, 0, 20) := by decide
theorem js_242 : j_sh 242 = (1, 0, 60) := by decide
theorem js_243 : j_sh 243 = (1, 0, 60) := by decide
theorem js_244 : j_sh 244 = (1, 1, 60) := by decide
theorem js_245 : j_sh 245 = (1, 2, 120) := by decide
theorem js_246 : j_sh 246 = (1, 0, 30) := by decide
theorem js_247 : j_sh 247 = (1, 0, 30) := by decide
theorem js_248 : j_sh 248 = (1, 0, 30) := by decide
theorem js_249 : j_sh 249 = (1, 0, 30) := by decide
theorem js_250 : j_sh 250 = (1, 0, 3900) := by decide
theorem js_251 : j_sh 251 = (1, 0, 3900) := by decide
theorem js_252 : j_sh 252 = (1, 0, 130) := by decide
theorem js_253 : j_sh 253 = (1, 0, 128) := by decide
theorem js_254 : j_sh 254 = (1, 0, 130) := by decide
theorem js_255 : j_sh 255 = (1, 0, 200) := by decide
theorem js_256 : j_sh 256 = (1, 0, 200) := by decide
theorem js_257 : j_sh 257 = (1, 0, 200) := by decide
theorem js_258 : j_sh 258 = (1, 0, 20) := by decide
theorem js_259 : j_sh 259 = (1, 0, 20) := by decide
theorem jsp_43 {q : Nat} (h : q < 100) : j_sh (43 + q) = (0, 4, 12) := by
  unfold j_sh
  repeat (first | rw [if_pos (by omega)] | rw [if_neg (by omega)])
theorem jsp_5 {q : Nat} (h : q < 16) : j_sh (5 + q) = (1, 0, 16) := by
  unfold j_sh
  repeat (first | rw [if_pos (by omega)] | rw [if_neg (by omega)])
theorem jsp_22 {q : Nat} (h : q < 16) : j_sh (22 + q) = (1, 0, 16) := by
  unfold j_sh
  repeat (first | rw [if_pos (by omega)] | rw [if_neg (by omega)])
theorem jsp_154 {q : Nat} (h : q < 40) : j_sh (154 + q) = (1, 0, 40) := by
  unfold j_sh
  repeat (first | rw [if_pos (by omega)] | rw [if_neg (by omega)])
theorem jp_0_0 {P : j_R} (h : j_Fx 0 260 P) : P 0 0 = some 1 := h.1 (0, 0, 1) (by decide) (by decide) (by decide)
theorem jp_0_1 {P : j_R} (h : j_Fx 0 260 P) : P 0 1 = some 38 := h.1 (0, 1, 38) (by decide) (by decide) (by decide)
theorem jp_0_2 {P : j_R} (h : j_Fx 0 260 P) : P 0 2 = some 40 := h.1 (0, 2, 40) (by decide) (by decide) (by decide)
theorem jp_0_3 {P : j_R} (h : j_Fx 0 260 P) : P 0 3 = some 41 := h.1 (0, 3, 41) (by decide) (by decide) (by decide)
theorem jp_0_4 {P : j_R} (h : j_Fx 0 260 P) : P 0 4 = some 143 := h.1 (0, 4, 143) (by decide) (by decide) (by decide)
theorem jp_0_5 {P : j_R} (h : j_Fx 0 260 P) : P 0 5 = some 150 := h.1 (0, 5, 150) (by decide) (by decide) (by decide)
theorem jp_0_6 {P : j_R} (h : j_Fx 0 260 P) : P 0 6 = some 194 := h.1 (0, 6, 194) (by decide) (by decide) (by decide)
theorem jp_0_7 {P : j_R} (h : j_Fx 0 260 P) : P 0 7 = some 198 := h.1 (0, 7, 198) (by decide) (by decide) (by decide)
theorem jp_0_8 {P : j_R} (h : j_Fx 0 260 P) : P 0 8 = some 202 := h.1 (0, 8, 202) (by decide) (by decide) (by decide)
theorem jp_0_9 {P : j_R} (h : j_Fx 0 260 P) : P 0 9 = some 211 := h.1 (0, 9, 211) (by decide) (by decide) (by decide)
theorem jp_1_1 {P : j_R} (h : j_Fx 1 38 P) : P 1 1 = some 2 := h.1 (1, 1, 2) (by decide) (by decide) (by decide)
theorem jp_1_2 {P : j_R} (h : j_Fx 1 38 P) : P 1 2 = some 3 := h.1 (1, 2, 3) (by decide) (by decide) (by decide)
theorem jp_1_3 {P : j_R} (h : j_Fx 1 38 P) : P 1 3 = some 4 := h.1 (1, 3, 4) (by decide) (by decide) (by decide)
theorem jp_1_4 {P : j_R} (h : j_Fx 1 38 P) : P 1 4 = some 21 := h.1 (1, 4, 21) (by decide) (by decide) (by decide)
theorem jp_38_1 {P : j_R} (h : j_Fx 0 260 P) : P 38 1 = some 39 := h.1 (38, 1, 39) (by decide) (by decide) (by decide)
theorem jp_41_1 {P : j_R} (h : j_Fx 0 260 P) : P 41 1 = some 42 := h.1 (41, 1, 42) (by decide) (by decide) (by decide)
theorem jp_143_2 {P : j_R} (h : j_Fx 0 260 P) : P 143 2 = some 144 := h.1 (143, 2, 144) (by decide) (by decide) (by decide)
theorem jp_143_3 {P : j_R} (h : j_Fx 0 260 P) : P 143 3 = some 145 := h.1 (143, 3, 145) (by decide) (by decide) (by decide)
theorem jp_143_4 {P : j_R} (h : j_Fx 0 260 P) : P 143 4 = some 146 := h.1 (143, 4, 146) (by decide) (by decide) (by decide)
theorem jp_143_5 {P : j_R} (h : j_Fx 0 260 P) : P 143 5 = some 147 := h.1 (143, 5, 147) (by decide) (by decide) (by decide)
theorem jp_143_7 {P : j_R} (h : j_Fx 0 260 P) : P 143 7 = some 148 := h.1 (143, 7, 148) (by decide) (by decide) (by decide)
theorem jp_143_8 {P : j_R} (h : j_Fx 0 260 P) : P 143 8 = some 149 := h.1 (143, 8, 149) (by decide) (by decide) (by decide)
theorem jp_150_3 {P : j_R} (h : j_Fx 0 260 P) : P 150 3 = some 151 := h.1 (150, 3, 151) (by decide) (by decide) (by decide)
theorem jp_150_4 {P : j_R} (h : j_Fx 0 260 P) : P 150 4 = some 152 := h.1 (150, 4, 152) (by decide) (by decide) (by decide)
theorem jp_150_5 {P : j_R} (h : j_Fx 0 260 P) : P 150 5 = some 153 := h.1 (150, 5, 153) (by decide) (by decide) (by decide)
theorem jp_194_1 {P : j_R} (h : j_Fx 0 260 P) : P 194 1 = some 195 := h.1 (194, 1, 195) (by decide) (by decide) (by decide)
theorem jp_194_2 {P : j_R} (h : j_Fx 0 260 P) : P 194 2 = some 196 := h.1 (194, 2, 196) (by decide) (by decide) (by decide)
theorem jp_194_3 {P : j_R} (h : j_Fx 0 260 P) : P 194 3 = some 197 := h.1 (194, 3, 197) (by decide) (by decide) (by decide)
theorem jp_198_5 {P : j_R} (h : j_Fx 0 260 P) : P 198 5 = some 199 := h.1 (198, 5, 199) (by decide) (by decide) (by decide)
theorem jp_198_6 {P : j_R} (h : j_Fx 0 260 P) : P 198 6 = some 200 := h.1 (198, 6, 200) (by decide) (by decide) (by decide)
theorem jp_198_7 {P : j_R} (h : j_Fx 0 260 P) : P 198 7 = some 201 := h.1 (198, 7, 201) (by decide) (by decide) (by decide)
theorem jp_202_2 {P : j_R} (h : j_Fx 0 260 P) : P 202 2 = some 203 := h.1 (202, 2, 203) (by decide) (by decide) (by decide)
theorem jp_202_3 {P : j_R} (h : j_Fx 0 260 P) : P 202 3 = some 204 := h.1 (202, 3, 204) (by decide) (by decide) (by decide)
theorem jp_202_4 {P : j_R} (h : j_Fx 0 260 P) : P 202 4 = some 205 := h.1 (202, 4, 205) (by decide) (by decide) (by decide)
theorem jp_202_5 {P : j_R} (h : j_Fx 0 260 P) : P 202 5 = some 206 := h.1 (202, 5, 206) (by decide) (by decide) (by decide)
theorem jp_202_6 {P : j_R} (h : j_Fx 0 260 P) : P 202 6 = some 207 := h.1 (202, 6, 207) (by decide) (by decide) (by decide)
theorem jp_202_7 {P : j_R} (h : j_Fx 0 260 P) : P 202 7 = some 208 := h.1 (202, 7, 208) (by decide) (by decide) (by decide)
theorem jp_208_0 {P : j_R} (h : j_Fx 0 260 P) : P 208 0 = some 209 := h.1 (208, 0, 209) (by decide) (by decide) (by decide)
theorem jp_211_1 {P : j_R} (h : j_Fx 0 260 P) : P 211 1 = some 212 := h.1 (211, 1, 212) (by decide) (by decide) (by decide)
theorem jp_211_2 {P : j_R} (h : j_Fx 0 260 P) : P 211 2 = some 213 := h.1 (211, 2, 213) (by decide) (by decide) (by decide)
theorem jp_211_3 {P : j_R} (h : j_Fx 0 260 P) : P 211 3 = some 214 := h.1 (211, 3, 214) (by decide) (by decide) (by decide)
theorem jp_215_4 {P : j_R} (h : j_Fx 0 260 P) : P 215 4 = some 216 := h.1 (215, 4, 216) (by decide) (by decide) (by decide)
theorem jp_215_5 {P : j_R} (h : j_Fx 0 260 P) : P 215 5 = some 217 := h.1 (215, 5, 217) (by decide) (by decide) (by decide)
theorem jp_215_6 {P : j_R} (h : j_Fx 0 260 P) : P 215 6 = some 218 := h.1 (215, 6, 218) (by decide) (by decide) (by decide)
theorem jp_215_8 {P : j_R} (h : j_Fx 0 260 P) : P 215 8 = some 219 := h.1 (215, 8, 219) (by decide) (by decide) (by decide)
theorem jp_215_9 {P : j_R} (h : j_Fx 0 260 P) : P 215 9 = some 220 := h.1 (215, 9, 220) (by decide) (by decide) (by decide)
theorem jp_215_10 {P : j_R} (h : j_Fx 0 260 P) : P 215 10 = some 221 := h.1 (215, 10, 221) (by decide) (by decide) (by decide)
theorem jp_215_11 {P : j_R} (h : j_Fx 0 260 P) : P 215 11 = some 222 := h.1 (215, 11, 222) (by decide) (by decide) (by decide)
theorem jp_215_13 {P : j_R} (h : j_Fx 0 260 P) : P 215 13 = some 223 := h.1 (215, 13, 223) (by decide) (by decide) (by decide)
theorem jp_215_14 {P : j_R} (h : j_Fx 0 260 P) : P 215 14 = some 224 := h.1 (215, 14, 224) (by decide) (by decide) (by decide)
theorem jp_215_15 {P : j_R} (h : j_Fx 0 260 P) : P 215 15 = some 225 := h.1 (215, 15, 225) (by decide) (by decide) (by decide)
theorem jp_215_16 {P : j_R} (h : j_Fx 0 260 P) : P 215 16 = some 226 := h.1 (215, 16, 226) (by decide) (by decide) (by decide)
theorem jp_215_17 {P : j_R} (h : j_Fx 0 260 P) : P 215 17 = some 227 := h.1 (215, 17, 227) (by decide) (by decide) (by decide)
theorem jp_215_18 {P : j_R} (h : j_Fx 0 260 P) : P 215 18 = some 228 := h.1 (215, 18, 228) (by decide) (by decide) (by decide)
theorem jp_215_19 {P : j_R} (h : j_Fx 0 260 P) : P 215 19 = some 229 := h.1 (215, 19, 229) (by decide) (by decide) (by decide)
theorem jp_215_20 {P : j_R} (h : j_Fx 0 260 P) : P 215 20 = some 230 := h.1 (215, 20, 230) (by decide) (by decide) (by decide)
theorem jp_215_21 {P : j_R} (h : j_Fx 0 260 P) : P 215 21 = some 231 := h.1 (215, 21, 231) (by decide) (by decide) (by decide)
theorem jp_215_22 {P : j_R} (h : j_Fx 0 260 P) : P 215 22 = some 232 := h.1 (215, 22, 232) (by decide) (by decide) (by decide)
theorem jp_215_23 {P : j_R} (h : j_Fx 0 260 P) : P 215 23 = some 233 := h.1 (215, 23, 233) (by decide) (by decide) (by decide)
theorem jp_215_29 {P : j_R} (h : j_Fx 0 260 P) : P 215 29 = some 234 := h.1 (215, 29, 234) (by decide) (by decide) (by decide)
theorem jp_215_31 {P : j_R} (h : j_Fx 0 260 P) : P 215 31 = some 235 := h.1 (215, 31, 235) (by decide) (by decide) (by decide)
theorem jp_215_32 {P : j_R} (h : j_Fx 0 260 P) : P 215 32 = some 236 := h.1 (215, 32, 236) (by decide) (by decide) (by decide)
theorem jp_215_33 {P : j_R} (h : j_Fx 0 260 P) : P 215 33 = some 237 := h.1 (215, 33, 237) (by decide) (by decide) (by decide)
theorem jp_215_34 {P : j_R} (h : j_Fx 0 260 P) : P 215 34 = some 238 := h.1 (215, 34, 238) (by decide) (by decide) (by decide)
theorem jp_215_35 {P : j_R} (h : j_Fx 0 260 P) : P 215 35 = some 239 := h.1 (215, 35, 239) (by decide) (by decide) (by decide)
theorem jp_215_41 {P : j_R} (h : j_Fx 0 260 P) : P 215 41 = some 240 := h.1 (215, 41, 240) (by decide) (by decide) (by decide)
theorem jp_215_42 {P : j_R} (h : j_Fx 0 260 P) : P 215 42 = some 241 := h.1 (215, 42, 241) (by decide) (by decide) (by decide)
theorem jp_215_47 {P : j_R} (h : j_Fx 0 260 P) : P 215 47 = some 242 := h.1 (215, 47, 242) (by decide) (by decide) (by decide)
theorem jp_215_48 {P : j_R} (h : j_Fx 0 260 P) : P 215 48 = some 243 := h.1 (215, 48, 243) (by decide) (by decide) (by decide)
theorem jp_215_49 {P : j_R} (h : j_Fx 0 260 P) : P 215 49 = some 244 := h.1 (215, 49, 244) (by decide) (by decide) (by decide)
theorem jp_215_50 {P : j_R} (h : j_Fx 0 260 P) : P 215 50 = some 245 := h.1 (215, 50, 245) (by decide) (by decide) (by decide)
theorem jp_215_53 {P : j_R} (h : j_Fx 0 260 P) : P 215 53 = some 246 := h.1 (215, 53, 246) (by decide) (by decide) (by decide)
theorem jp_215_54 {P : j_R} (h : j_Fx 0 260 P) : P 215 54 = some 247 := h.1 (215, 54, 247) (by decide) (by decide) (by decide)
theorem jp_215_55 {P : j_R} (h : j_Fx 0 260 P) : P 215 55 = some 248 := h.1 (215, 55, 248) (by decide) (by decide) (by decide)
theorem jp_215_56 {P : j_R} (h : j_Fx 0 260 P) : P 215 56 = some 249 := h.1 (215, 56, 249) (by decide) (by decide) (by decide)
theorem jp_215_57 {P : j_R} (h : j_Fx 0 260 P) : P 215 57 = some 250 := h.1 (215, 57, 250) (by decide) (by decide) (by decide)
theorem jp_215_58 {P : j_R} (h : j_Fx 0 260 P) : P 215 58 = some 251 := h.1 (215, 58, 251) (by decide) (by decide) (by decide)
theorem jp_215_59 {P : j_R} (h : j_Fx 0 260 P) : P 215 59 = some 252 := h.1 (215, 59, 252) (by decide) (by decide) (by decide)
theorem jp_215_63 {P : j_R} (h : j_Fx 0 260 P) : P 215 63 = some 253 := h.1 (215, 63, 253) (by decide) (by decide) (by decide)
theorem jp_215_64 {P : j_R} (h : j_Fx 0 260 P) : P 215 64 = some 254 := h.1 (215, 64, 254) (by decide) (by decide) (by decide)
theorem jp_215_65 {P : j_R} (h : j_Fx 0 260 P) : P 215 65 = some 255 := h.1 (215, 65, 255) (by decide) (by decide) (by decide)
theorem jp_215_66 {P : j_R} (h : j_Fx 0 260 P) : P 215 66 = some 256 := h.1 (215, 66, 256) (by decide) (by decide) (by decide)
theorem jp_215_67 {P : j_R} (h : j_Fx 0 260 P) : P 215 67 = some 257 := h.1 (215, 67, 257) (by decide) (by decide) (by decide)
theorem jp_215_69 {P : j_R} (h : j_Fx 0 260 P) : P 215 69 = some 258 := h.1 (215, 69, 258) (by decide) (by decide) (by decide)
theorem jp_215_70 {P : j_R} (h : j_Fx 0 260 P) : P 215 70 = some 259 := h.1 (215, 70, 259) (by decide) (by decide) (by decide)
theorem ja_4 {P : j_R} (h : j_Fx 1 38 P) : ∀ i, i < 16 → P 4 i = some (5 + i) := h.2 (4, 5, 16) (by decide) (by decide) (by decide)
theorem ja_21 {P : j_R} (h : j_Fx 1 38 P) : ∀ i, i < 16 → P 21 i = some (22 + i) := h.2 (21, 22, 16) (by decide) (by decide) (by decide)
theorem ja_42 {P : j_R} (h : j_Fx 0 260 P) : ∀ i, i < 100 → P 42 i = some (43 + i) := h.2 (42, 43, 100) (by decide) (by decide) (by decide)
theorem ja_153 {P : j_R} (h : j_Fx 0 260 P) : ∀ i, i < 40 → P 153 i = some (154 + i) := h.2 (153, 154, 40) (by decide) (by decide) (by decide)
theorem jc_G : j_cl[0]? = some ("PleasureGarden", jT_G, 15) := rfl
theorem jc_Gr : j_cl[1]? = some ("PleasureGarden$Grounds", jT_Gr, 5) := rfl
theorem jc_Sk : j_cl[2]? = some ("PleasureGarden$Sky", jT_Sk, 2) := rfl
theorem jc_Gu : j_cl[3]? = some ("PleasureGarden$Guests", jT_Gu, 2) := rfl
theorem jc_Pa : j_cl[4]? = some ("PleasureGarden$Party", jT_Pa, 12) := rfl
theorem jc_Wa : j_cl[5]? = some ("PleasureGarden$Watch", jT_Wa, 9) := rfl
theorem jc_La : j_cl[6]? = some ("PleasureGarden$Lamps", jT_La, 6) := rfl
theorem jc_Bo : j_cl[7]? = some ("PleasureGarden$Boxes", jT_Bo, 4) := rfl
theorem jc_Ki : j_cl[8]? = some ("PleasureGarden$Kitchen", jT_Ki, 8) := rfl
theorem jc_Pr : j_cl[9]? = some ("PleasureGarden$Prices", jT_Pr, 8) := rfl
theorem jc_Re : j_cl[10]? = some ("PleasureGarden$Reader", jT_Re, 6) := rfl
theorem jc_Le : j_cl[11]? = some ("PleasureGarden$Ledger", jT_Le, 4) := rfl
theorem jc_M : j_cl[12]? = some ("PleasureGardenModel", jT_M, 71) := rfl
theorem jk_0_0 : j_fk 0 0 = 1 := by decide
theorem jk_0_1 : j_fk 0 1 = 1 := by decide
theorem jk_0_2 : j_fk 0 2 = 1 := by decide
theorem jk_0_3 : j_fk 0 3 = 1 := by decide
theorem jk_0_4 : j_fk 0 4 = 1 := by decide
theorem jk_0_5 : j_fk 0 5 = 1 := by decide
theorem jk_0_6 : j_fk 0 6 = 1 := by decide
theorem jk_0_7 : j_fk 0 7 = 1 := by decide
theorem jk_0_8 : j_fk 0 8 = 1 := by decide
theorem jk_0_9 : j_fk 0 9 = 1 := by decide
theorem jk_0_10 : j_fk 0 10 = 0 := by decide
theorem jk_0_11 : j_fk 0 11 = 0 := by decide
theorem jk_0_12 : j_fk 0 12 = 0 := by decide
theorem jk_0_13 : j_fk 0 13 = 0 := by decide
theorem jk_0_14 : j_fk 0 14 = 0 := by decide
theorem jk_1_0 : j_fk 1 0 = 0 := by decide
theorem jk_1_1 : j_fk 1 1 = 1 := by decide
theorem jk_1_2 : j_fk 1 2 = 1 := by decide
theorem jk_1_3 : j_fk 1 3 = 1 := by decide
theorem jk_1_4 : j_fk 1 4 = 1 := by decide
theorem jk_2_0 : j_fk 2 0 = 0 := by decide
theorem jk_2_1 : j_fk 2 1 = 1 := by decide
theorem jk_3_0 : j_fk 3 0 = 0 := by decide
theorem jk_3_1 : j_fk 3 1 = 1 := by decide
theorem jk_4_0 : j_fk 4 0 = 0 := by decide
theorem jk_4_1 : j_fk 4 1 = 0 := by decide
theorem jk_4_2 : j_fk 4 2 = 0 := by decide
theorem jk_4_3 : j_fk 4 3 = 0 := by decide
theorem jk_4_4 : j_fk 4 4 = 0 := by decide
theorem jk_4_5 : j_fk 4 5 = 0 := by decide
theorem jk_4_6 : j_fk 4 6 = 0 := by decide
theorem jk_4_7 : j_fk 4 7 = 0 := by decide
theorem jk_4_8 : j_fk 4 8 = 0 := by decide
theorem jk_4_9 : j_fk 4 9 = 0 := by decide
theorem jk_4_10 : j_fk 4 10 = 0 := by decide
theorem jk_4_11 : j_fk 4 11 = 0 := by decide
theorem jk_5_0 : j_fk 5 0 = 0 := by decide
theorem jk_5_1 : j_fk 5 1 = 0 := by decide
theorem jk_5_2 : j_fk 5 2 = 1 := by decide
theorem jk_5_3 : j_fk 5 3 = 1 := by decide
theorem jk_5_4 : j_fk 5 4 = 1 := by decide
theorem jk_5_5 : j_fk 5 5 = 1 := by decide
theorem jk_5_6 : j_fk 5 6 = 0 := by decide
theorem jk_5_7 : j_fk 5 7 = 1 := by decide
theorem jk_5_8 : j_fk 5 8 = 1 := by decide
theorem jk_6_0 : j_fk 6 0 = 0 := by decide
theorem jk_6_1 : j_fk 6 1 = 0 := by decide
theorem jk_6_2 : j_fk 6 2 = 0 := by decide
theorem jk_6_3 : j_fk 6 3 = 1 := by decide
theorem jk_6_4 : j_fk 6 4 = 1 := by decide
theorem jk_6_5 : j_fk 6 5 = 1 := by decide
theorem jk_7_0 : j_fk 7 0 = 0 := by decide
theorem jk_7_1 : j_fk 7 1 = 1 := by decide
theorem jk_7_2 : j_fk 7 2 = 1 := by decide
theorem jk_7_3 : j_fk 7 3 = 1 := by decide
theorem jk_8_0 : j_fk 8 0 = 0 := by decide
theorem jk_8_1 : j_fk 8 1 = 0 := by decide
theorem jk_8_2 : j_fk 8 2 = 0 := by decide
theorem jk_8_3 : j_fk 8 3 = 0 := by decide
theorem jk_8_4 : j_fk 8 4 = 0 := by decide
theorem jk_8_5 : j_fk 8 5 = 1 := by decide
theorem jk_8_6 : j_fk 8 6 = 1 := by decide
theorem jk_8_7 : j_fk 8 7 = 1 := by decide
theorem jk_9_0 : j_fk 9 0 = 0 := by decide
theorem jk_9_1 : j_fk 9 1 = 0 := by decide
theorem jk_9_2 : j_fk 9 2 = 1 := by decide
theorem jk_9_3 : j_fk 9 3 = 1 := by decide
theorem jk_9_4 : j_fk 9 4 = 1 := by decide
theorem jk_9_5 : j_fk 9 5 = 1 := by decide
theorem jk_9_6 : j_fk 9 6 = 1 := by decide
theorem jk_9_7 : j_fk 9 7 = 1 := by decide
theorem jk_10_0 : j_fk 10 0 = 1 := by decide
theorem jk_10_1 : j_fk 10 1 = 0 := by decide
theorem jk_10_2 : j_fk 10 2 = 2 := by decide
theorem jk_10_3 : j_fk 10 3 = 0 := by decide
theorem jk_10_4 : j_fk 10 4 = 0 := by decide
theorem jk_10_5 : j_fk 10 5 = 0 := by decide
theorem jk_11_0 : j_fk 11 0 = 0 := by decide
theorem jk_11_1 : j_fk 11 1 = 1 := by decide
theorem jk_11_2 : j_fk 11 2 = 1 := by decide
theorem jk_11_3 : j_fk 11 3 = 1 := by decide
theorem jk_12_0 : j_fk 12 0 = 0 := by decide
theorem jk_12_1 : j_fk 12 1 = 0 := by decide
theorem jk_12_2 : j_fk 12 2 = 0 := by decide
theorem jk_12_3 : j_fk 12 3 = 0 := by decide
theorem jk_12_4 : j_fk 12 4 = 1 := by decide
theorem jk_12_5 : j_fk 12 5 = 1 := by decide
theorem jk_12_6 : j_fk 12 6 = 1 := by decide
theorem jk_12_7 : j_fk 12 7 = 0 := by decide
theorem jk_12_8 : j_fk 12 8 = 1 := by decide
theorem jk_12_9 : j_fk 12 9 = 1 := by decide
theorem jk_12_10 : j_fk 12 10 = 1 := by decide
theorem jk_12_11 : j_fk 12 11 = 1 := by decide
theorem jk_12_12 : j_fk 12 12 = 0 := by decide
theorem jk_12_13 : j_fk 12 13 = 1 := by decide
theorem jk_12_14 : j_fk 12 14 = 1 := by decide
theorem jk_12_15 : j_fk 12 15 = 1 := by decide
theorem jk_12_16 : j_fk 12 16 = 1 := by decide
theorem jk_12_17 : j_fk 12 17 = 1 := by decide
theorem jk_12_18 : j_fk 12 18 = 1 := by decide
theorem jk_12_19 : j_fk 12 19 = 1 := by decide
theorem jk_12_20 : j_fk 12 20 = 1 := by decide
theorem jk_12_21 : j_fk 12 21 = 1 := by decide
theorem jk_12_22 : j_fk 12 22 = 1 := by decide
theorem jk_12_23 : j_fk 12 23 = 1 := by decide
theorem jk_12_24 : j_fk 12 24 = 0 := by decide
theorem jk_12_25 : j_fk 12 25 = 0 := by decide
theorem jk_12_26 : j_fk 12 26 = 0 := by decide
theorem jk_12_27 : j_fk 12 27 = 0 := by decide
theorem jk_12_28 : j_fk 12 28 = 0 := by decide
theorem jk_12_29 : j_fk 12 29 = 1 := by decide
theorem jk_12_30 : j_fk 12 30 = 0 := by decide
theorem jk_12_31 : j_fk 12 31 = 1 := by decide
theorem jk_12_32 : j_fk 12 32 = 1 := by decide
theorem jk_12_33 : j_fk 12 33 = 1 := by decide
theorem jk_12_34 : j_fk 12 34 = 1 := by decide
theorem jk_12_35 : j_fk 12 35 = 1 := by decide
theorem jk_12_36 : j_fk 12 36 = 0 := by decide
theorem jk_12_37 : j_fk 12 37 = 0 := by decide
theorem jk_12_38 : j_fk 12 38 = 0 := by decide
theorem jk_12_39 : j_fk 12 39 = 0 := by decide
theorem jk_12_40 : j_fk 12 40 = 0 := by decide
theorem jk_12_41 : j_fk 12 41 = 1 := by decide
theorem jk_12_42 : j_fk 12 42 = 1 := by decide
theorem jk_12_43 : j_fk 12 43 = 0 := by decide
theorem jk_12_44 : j_fk 12 44 = 0 := by decide
theorem jk_12_45 : j_fk 12 45 = 0 := by decide
theorem jk_12_46 : j_fk 12 46 = 0 := by decide
theorem jk_12_47 : j_fk 12 47 = 1 := by decide
theorem jk_12_48 : j_fk 12 48 = 1 := by decide
theorem jk_12_49 : j_fk 12 49 = 1 := by decide
theorem jk_12_50 : j_fk 12 50 = 1 := by decide
theorem jk_12_51 : j_fk 12 51 = 0 := by decide
theorem jk_12_52 : j_fk 12 52 = 0 := by decide
theorem jk_12_53 : j_fk 12 53 = 1 := by decide
theorem jk_12_54 : j_fk 12 54 = 1 := by decide
theorem jk_12_55 : j_fk 12 55 = 1 := by decide
theorem jk_12_56 : j_fk 12 56 = 1 := by decide
theorem jk_12_57 : j_fk 12 57 = 1 := by decide
theorem jk_12_58 : j_fk 12 58 = 1 := by decide
theorem jk_12_59 : j_fk 12 59 = 1 := by decide
theorem jk_12_60 : j_fk 12 60 = 0 := by decide
theorem jk_12_61 : j_fk 12 61 = 0 := by decide
theorem jk_12_62 : j_fk 12 62 = 0 := by decide
theorem jk_12_63 : j_fk 12 63 = 1 := by decide
theorem jk_12_64 : j_fk 12 64 = 1 := by decide
theorem jk_12_65 : j_fk 12 65 = 1 := by decide
theorem jk_12_66 : j_fk 12 66 = 1 := by decide
theorem jk_12_67 : j_fk 12 67 = 1 := by decide
theorem jk_12_68 : j_fk 12 68 = 0 := by decide
theorem jk_12_69 : j_fk 12 69 = 1 := by decide
theorem jk_12_70 : j_fk 12 70 = 1 := by decide
theorem jh_G_place : jy_G_place.cls = "PleasureGarden" ∧ jy_G_place.cls ≠ "java/lang/invoke/MethodHandle" ∧ jy_G_place.cls ≠ "java/lang/invoke/VarHandle" ∧ (parseMethodDescriptor jy_G_place.desc).map (fun d => d.parameters.length) = some 2 := by decide +kernel
theorem jh_G_walk : jy_G_walk.cls = "PleasureGarden" ∧ jy_G_walk.cls ≠ "java/lang/invoke/MethodHandle" ∧ jy_G_walk.cls ≠ "java/lang/invoke/VarHandle" ∧ (parseMethodDescriptor jy_G_walk.desc).map (fun d => d.parameters.length) = some 3 := by decide +kernel
theorem jh_G_way : jy_G_way.cls = "PleasureGarden" ∧ jy_G_way.cls ≠ "java/lang/invoke/MethodHandle" ∧ jy_G_way.cls ≠ "java/lang/invoke/VarHandle" ∧ (parseMethodDescriptor jy_G_way.desc).map (fun d => d.parameters.length) = some 2 := by decide +kernel
theorem jh_G_rain : jy_G_rain.cls = "PleasureGarden" ∧ jy_G_rain.cls ≠ "java/lang/invoke/MethodHandle" ∧ jy_G_rain.cls ≠ "java/lang/invoke/VarHandle" ∧ (parseMethodDescriptor jy_G_rain.desc).map (fun d => d.parameters.length) = some 2 := by decide +kernel
theorem jh_G_sell : jy_G_sell.cls = "PleasureGarden" ∧ jy_G_sell.cls ≠ "java/lang/invoke/MethodHandle" ∧ jy_G_sell.cls ≠ "java/lang/invoke/VarHandle" ∧ (parseMethodDescriptor jy_G_sell.desc).map (fun d => d.parameters.length) = some 2 := by decide +kernel
theorem jh_G_enter : jy_G_enter.cls = "PleasureGarden" ∧ jy_G_enter.cls ≠ "java/lang/invoke/MethodHandle" ∧ jy_G_enter.cls ≠ "java/lang/invoke/VarHandle" ∧ (parseMethodDescriptor jy_G_enter.desc).map (fun d => d.parameters.length) = some 2 := by decide +kernel
theorem jh_G_go : jy_G_go.cls = "PleasureGarden" ∧ jy_G_go.cls ≠ "java/lang/invoke/MethodHandle" ∧ jy_G_go.cls ≠ "java/lang/invoke/VarHandle" ∧ (parseMethodDescriptor jy_G_go.desc).map (fun d => d.parameters.length) = some 2 := by decide +kernel
theorem jh_G_leave : jy_G_leave.cls = "PleasureGarden" ∧ jy_G_leave.cls ≠ "java/lang/invoke/MethodHandle" ∧ jy_G_leave.cls ≠ "java/lang/invoke/VarHandle" ∧ (parseMethodDescriptor jy_G_leave.desc).map (fun d => d.parameters.length) = some 1 := by decide +kernel
theorem jh_G_party : jy_G_party.cls = "PleasureGarden" ∧ jy_G_party.cls ≠ "java/lang/invoke/MethodHandle" ∧ jy_G_party.cls ≠ "java/lang/invoke/VarHandle" ∧ (parseMethodDescriptor jy_G_party.desc).map (fun d => d.parameters.length) = some 2 := by decide +kernel
theorem jh_G_heads : jy_G_heads.cls = "PleasureGarden" ∧ jy_G_heads.cls ≠ "java/lang/invoke/MethodHandle" ∧ jy_G_heads.cls ≠ "java/lang/invoke/VarHandle" ∧ (parseMethodDescriptor jy_G_heads.desc).map (fun d => d.parameters.length) = some 1 := by decide +kernel
theorem jh_G_minutes : jy_G_minutes.cls = "PleasureGarden" ∧ jy_G_minutes.cls ≠ "java/lang/invoke/MethodHandle" ∧ jy_G_minutes.cls ≠ "java/lang/invoke/VarHandle" ∧ (parseMethodDescriptor jy_G_minutes.desc).map (fun d => d.parameters.length) = some 1 := by decide +kernel
theorem jh_G_lamp : jy_G_lamp.cls = "PleasureGarden" ∧ jy_G_lamp.cls ≠ "java/lang/invoke/MethodHandle" ∧ jy_G_lamp.cls ≠ "java/lang/invoke/VarHandle" ∧ (parseMethodDescriptor jy_G_lamp.desc).map (fun d => d.parameters.length) = some 1 := by decide +kernel
theorem jh_G_fuse : jy_G_fuse.cls = "PleasureGarden" ∧ jy_G_fuse.cls ≠ "java/lang/invoke/MethodHandle" ∧ jy_G_fuse.cls ≠ "java/lang/invoke/VarHandle" ∧ (parseMethodDescriptor jy_G_fuse.desc).map (fun d => d.parameters.length) = some 3 := by decide +kernel
theorem jh_G_light : jy_G_light.cls = "PleasureGarden" ∧ jy_G_light.cls ≠ "java/lang/invoke/MethodHandle" ∧ jy_G_light.cls ≠ "java/lang/invoke/VarHandle" ∧ (parseMethodDescriptor jy_G_light.desc).map (fun d => d.parameters.length) = some 2 := by decide +kernel
theorem jh_G_burns : jy_G_burns.cls = "PleasureGarden" ∧ jy_G_burns.cls ≠ "java/lang/invoke/MethodHandle" ∧ jy_G_burns.cls ≠ "java/lang/invoke/VarHandle" ∧ (parseMethodDescriptor jy_G_burns.desc).map (fun d => d.parameters.length) = some 1 := by decide +kernel
theorem jh_G_dark : jy_G_dark.cls = "PleasureGarden" ∧ jy_G_dark.cls ≠ "java/lang/invoke/MethodHandle" ∧ jy_G_dark.cls ≠ "java/lang/invoke/VarHandle" ∧ (parseMethodDescriptor jy_G_dark.desc).map (fun d => d.parameters.length) = some 0 := by decide +kernel
theorem jh_G_spent : jy_G_spent.cls = "PleasureGarden" ∧ jy_G_spent.cls ≠ "java/lang/invoke/MethodHandle" ∧ jy_G_spent.cls ≠ "java/lang/invoke/VarHandle" ∧ (parseMethodDescriptor jy_G_spent.desc).map (fun d => d.parameters.length) = some 0 := by decide +kernel
theorem jh_G_best : jy_G_best.cls = "PleasureGarden" ∧ jy_G_best.cls ≠ "java/lang/invoke/MethodHandle" ∧ jy_G_best.cls ≠ "java/lang/invoke/VarHandle" ∧ (parseMethodDescriptor jy_G_best.desc).map (fun d => d.parameters.length) = some 1 := by decide +kernel
theorem jh_G_box : jy_G_box.cls = "PleasureGarden" ∧ jy_G_box.cls ≠ "java/lang/invoke/MethodHandle" ∧ jy_G_box.cls ≠ "java/lang/invoke/VarHandle" ∧ (parseMethodDescriptor jy_G_box.desc).map (fun d => d.parameters.length) = some 2 := by decide +kernel
theorem jh_G_let : jy_G_let.cls = "PleasureGarden" ∧ jy_G_let.cls ≠ "java/lang/invoke/MethodHandle" ∧ jy_G_let.cls ≠ "java/lang/invoke/VarHandle" ∧ (parseMethodDescriptor jy_G_let.desc).map (fun d => d.parameters.length) = some 2 := by decide +kernel
theorem jh_G_rise : jy_G_rise.cls = "PleasureGarden" ∧ jy_G_rise.cls ≠ "java/lang/invoke/MethodHandle" ∧ jy_G_rise.cls ≠ "java/lang/invoke/VarHandle" ∧ (parseMethodDescriptor jy_G_rise.desc).map (fun d => d.parameters.length) = some 1 := by decide +kernel
theorem jh_G_in : jy_G_in.cls = "PleasureGarden" ∧ jy_G_in.cls ≠ "java/lang/invoke/MethodHandle" ∧ jy_G_in.cls ≠ "java/lang/invoke/VarHandle" ∧ (parseMethodDescriptor jy_G_in.desc).map (fun d => d.parameters.length) = some 1 := by decide +kernel
theorem jh_G_ham : jy_G_ham.cls = "PleasureGarden" ∧ jy_G_ham.cls ≠ "java/lang/invoke/MethodHandle" ∧ jy_G_ham.cls ≠ "java/lang/invoke/VarHandle" ∧ (parseMethodDescriptor jy_G_ham.desc).map (fun d => d.parameters.length) = some 1 := by decide +kernel
theorem jh_G_rule : jy_G_rule.cls = "PleasureGarden" ∧ jy_G_rule.cls ≠ "java/lang/invoke/MethodHandle" ∧ jy_G_rule.cls ≠ "java/lang/invoke/VarHandle" ∧ (parseMethodDescriptor jy_G_rule.desc).map (fun d => d.parameters.length) = some 2 := by decide +kernel
theorem jh_G_order : jy_G_order.cls = "PleasureGarden" ∧ jy_G_order.cls ≠ "java/lang/invoke/MethodHandle" ∧ jy_G_order.cls ≠ "java/lang/invoke/VarHandle" ∧ (parseMethodDescriptor jy_G_order.desc).map (fun d => d.parameters.length) = some 2 := by decide +kernel
theorem jh_G_feed : jy_G_feed.cls = "PleasureGarden" ∧ jy_G_feed.cls ≠ "java/lang/invoke/MethodHandle" ∧ jy_G_feed.cls ≠ "java/lang/invoke/VarHandle" ∧ (parseMethodDescriptor jy_G_feed.desc).map (fun d => d.parameters.length) = some 2 := by decide +kernel
theorem jh_G_price : jy_G_price.cls = "PleasureGarden" ∧ jy_G_price.cls ≠ "java/lang/invoke/MethodHandle" ∧ jy_G_price.cls ≠ "java/lang/invoke/VarHandle" ∧ (parseMethodDescriptor jy_G_price.desc).map (fun d => d.parameters.length) = some 2 := by decide +kernel
theorem jh_G_inForce : jy_G_inForce.cls = "PleasureGarden" ∧ jy_G_inForce.cls ≠ "java/lang/invoke/MethodHandle" ∧ jy_G_inForce.cls ≠ "java/lang/invoke/VarHandle" ∧ (parseMethodDescriptor jy_G_inForce.desc).map (fun d => d.parameters.length) = some 3 := by decide +kernel
theorem jh_G_gives : jy_G_gives.cls = "PleasureGarden" ∧ jy_G_gives.cls ≠ "java/lang/invoke/MethodHandle" ∧ jy_G_gives.cls ≠ "java/lang/invoke/VarHandle" ∧ (parseMethodDescriptor jy_G_gives.desc).map (fun d => d.parameters.length) = some 3 := by decide +kernel
theorem jh_G_close : jy_G_close.cls = "PleasureGarden" ∧ jy_G_close.cls ≠ "java/lang/invoke/MethodHandle" ∧ jy_G_close.cls ≠ "java/lang/invoke/VarHandle" ∧ (parseMethodDescriptor jy_G_close.desc).map (fun d => d.parameters.length) = some 0 := by decide +kernel
theorem jh_G_night : jy_G_night.cls = "PleasureGarden" ∧ jy_G_night.cls ≠ "java/lang/invoke/MethodHandle" ∧ jy_G_night.cls ≠ "java/lang/invoke/VarHandle" ∧ (parseMethodDescriptor jy_G_night.desc).map (fun d => d.parameters.length) = some 2 := by decide +kernel
theorem jh_G_foretold : jy_G_foretold.cls = "PleasureGarden" ∧ jy_G_foretold.cls ≠ "java/lang/invoke/MethodHandle" ∧ jy_G_foretold.cls ≠ "java/lang/invoke/VarHandle" ∧ (parseMethodDescriptor jy_G_foretold.desc).map (fun d => d.parameters.length) = some 1 := by decide +kernel
theorem jh_G_stolen : jy_G_stolen.cls = "PleasureGarden" ∧ jy_G_stolen.cls ≠ "java/lang/invoke/MethodHandle" ∧ jy_G_stolen.cls ≠ "java/lang/invoke/VarHandle" ∧ (parseMethodDescriptor jy_G_stolen.desc).map (fun d => d.parameters.length) = some 2 := by decide +kernel
theorem jh_G_near : jy_G_near.cls = "PleasureGarden" ∧ jy_G_near.cls ≠ "java/lang/invoke/MethodHandle" ∧ jy_G_near.cls ≠ "java/lang/invoke/VarHandle" ∧ (parseMethodDescriptor jy_G_near.desc).map (fun d => d.parameters.length) = some 1 := by decide +kernel
theorem jh_G_doubt : jy_G_doubt.cls = "PleasureGarden" ∧ jy_G_doubt.cls ≠ "java/lang/invoke/MethodHandle" ∧ jy_G_doubt.cls ≠ "java/lang/invoke/VarHandle" ∧ (parseMethodDescriptor jy_G_doubt.desc).map (fun d => d.parameters.length) = some 1 := by decide +kernel
theorem jh_G_count : jy_G_count.cls = "PleasureGarden" ∧ jy_G_count.cls ≠ "java/lang/invoke/MethodHandle" ∧ jy_G_count.cls ≠ "java/lang/invoke/VarHandle" ∧ (parseMethodDescriptor jy_G_count.desc).map (fun d => d.parameters.length) = some 1 := by decide +kernel
theorem jh_G_within : jy_G_within.cls = "PleasureGarden" ∧ jy_G_within.cls ≠ "java/lang/invoke/MethodHandle" ∧ jy_G_within.cls ≠ "java/lang/invoke/VarHandle" ∧ (parseMethodDescriptor jy_G_within.desc).map (fun d => d.parameters.length) = some 3 := by decide +kernel
theorem jh_G_settle : jy_G_settle.cls = "PleasureGarden" ∧ jy_G_settle.cls ≠ "java/lang/invoke/MethodHandle" ∧ jy_G_settle.cls ≠ "java/lang/invoke/VarHandle" ∧ (parseMethodDescriptor jy_G_settle.desc).map (fun d => d.parameters.length) = some 2 := by decide +kernel
theorem jh_G_setOff : jy_G_setOff.cls = "PleasureGarden" ∧ jy_G_setOff.cls ≠ "java/lang/invoke/MethodHandle" ∧ jy_G_setOff.cls ≠ "java/lang/invoke/VarHandle" ∧ (parseMethodDescriptor jy_G_setOff.desc).map (fun d => d.parameters.length) = some 3 := by decide +kernel
theorem jh_G_showOut : jy_G_showOut.cls = "PleasureGarden" ∧ jy_G_showOut.cls ≠ "java/lang/invoke/MethodHandle" ∧ jy_G_showOut.cls ≠ "java/lang/invoke/VarHandle" ∧ (parseMethodDescriptor jy_G_showOut.desc).map (fun d => d.parameters.length) = some 1 := by decide +kernel
theorem jh_G_quitBox : jy_G_quitBox.cls = "PleasureGarden" ∧ jy_G_quitBox.cls ≠ "java/lang/invoke/MethodHandle" ∧ jy_G_quitBox.cls ≠ "java/lang/invoke/VarHandle" ∧ (parseMethodDescriptor jy_G_quitBox.desc).map (fun d => d.parameters.length) = some 1 := by decide +kernel
theorem jh_G_seatArrivals : jy_G_seatArrivals.cls = "PleasureGarden" ∧ jy_G_seatArrivals.cls ≠ "java/lang/invoke/MethodHandle" ∧ jy_G_seatArrivals.cls ≠ "java/lang/invoke/VarHandle" ∧ (parseMethodDescriptor jy_G_seatArrivals.desc).map (fun d => d.parameters.length) = some 0 := by decide +kernel
theorem jh_G_seekShelter : jy_G_seekShelter.cls = "PleasureGarden" ∧ jy_G_seekShelter.cls ≠ "java/lang/invoke/MethodHandle" ∧ jy_G_seekShelter.cls ≠ "java/lang/invoke/VarHandle" ∧ (parseMethodDescriptor jy_G_seekShelter.desc).map (fun d => d.parameters.length) = some 0 := by decide +kernel
theorem jh_G_serveOrders : jy_G_serveOrders.cls = "PleasureGarden" ∧ jy_G_serveOrders.cls ≠ "java/lang/invoke/MethodHandle" ∧ jy_G_serveOrders.cls ≠ "java/lang/invoke/VarHandle" ∧ (parseMethodDescriptor jy_G_serveOrders.desc).map (fun d => d.parameters.length) = some 0 := by decide +kernel
theorem jh_G_overcrowding : jy_G_overcrowding.cls = "PleasureGarden" ∧ jy_G_overcrowding.cls ≠ "java/lang/invoke/MethodHandle" ∧ jy_G_overcrowding.cls ≠ "java/lang/invoke/VarHandle" ∧ (parseMethodDescriptor jy_G_overcrowding.desc).map (fun d => d.parameters.length) = some 0 := by decide +kernel
theorem jh_G_worth : jy_G_worth.cls = "PleasureGarden" ∧ jy_G_worth.cls ≠ "java/lang/invoke/MethodHandle" ∧ jy_G_worth.cls ≠ "java/lang/invoke/VarHandle" ∧ (parseMethodDescriptor jy_G_worth.desc).map (fun d => d.parameters.length) = some 3 := by decide +kernel
theorem jh_G_beginNight : jy_G_beginNight.cls = "PleasureGarden" ∧ jy_G_beginNight.cls ≠ "java/lang/invoke/MethodHandle" ∧ jy_G_beginNight.cls ≠ "java/lang/invoke/VarHandle" ∧ (parseMethodDescriptor jy_G_beginNight.desc).map (fun d => d.parameters.length) = some 0 := by decide +kernel
theorem jh_Gr_has : jy_Gr_has.cls = "PleasureGarden$Grounds" ∧ jy_Gr_has.cls ≠ "java/lang/invoke/MethodHandle" ∧ jy_Gr_has.cls ≠ "java/lang/invoke/VarHandle" ∧ (parseMethodDescriptor jy_Gr_has.desc).map (fun d => d.parameters.length) = some 1 := by decide +kernel
theorem jh_Gr_add : jy_Gr_add.cls = "PleasureGarden$Grounds" ∧ jy_Gr_add.cls ≠ "java/lang/invoke/MethodHandle" ∧ jy_Gr_add.cls ≠ "java/lang/invoke/VarHandle" ∧ (parseMethodDescriptor jy_Gr_add.desc).map (fun d => d.parameters.length) = some 2 := by decide +kernel
theorem jh_Gr_setWalk : jy_Gr_setWalk.cls = "PleasureGarden$Grounds" ∧ jy_Gr_setWalk.cls ≠ "java/lang/invoke/MethodHandle" ∧ jy_Gr_setWalk.cls ≠ "java/lang/invoke/VarHandle" ∧ (parseMethodDescriptor jy_Gr_setWalk.desc).map (fun d => d.parameters.length) = some 3 := by decide +kernel
theorem jh_Gr_measure : jy_Gr_measure.cls = "PleasureGarden$Grounds" ∧ jy_Gr_measure.cls ≠ "java/lang/invoke/MethodHandle" ∧ jy_Gr_measure.cls ≠ "java/lang/invoke/VarHandle" ∧ (parseMethodDescriptor jy_Gr_measure.desc).map (fun d => d.parameters.length) = some 0 := by decide +kernel
theorem jh_Gr_minutesBetween : jy_Gr_minutesBetween.cls = "PleasureGarden$Grounds" ∧ jy_Gr_minutesBetween.cls ≠ "java/lang/invoke/MethodHandle" ∧ jy_Gr_minutesBetween.cls ≠ "java/lang/invoke/VarHandle" ∧ (parseMethodDescriptor jy_Gr_minutesBetween.desc).map (fun d => d.parameters.length) = some 2 := by decide +kernel
theorem jh_Gr_isOpen : jy_Gr_isOpen.cls = "PleasureGarden$Grounds" ∧ jy_Gr_isOpen.cls ≠ "java/lang/invoke/MethodHandle" ∧ jy_Gr_isOpen.cls ≠ "java/lang/invoke/VarHandle" ∧ (parseMethodDescriptor jy_Gr_isOpen.desc).map (fun d => d.parameters.length) = some 1 := by decide +kernel
theorem jh_Gr_nearestShelter : jy_Gr_nearestShelter.cls = "PleasureGarden$Grounds" ∧ jy_Gr_nearestShelter.cls ≠ "java/lang/invoke/MethodHandle" ∧ jy_Gr_nearestShelter.cls ≠ "java/lang/invoke/VarHandle" ∧ (parseMethodDescriptor jy_Gr_nearestShelter.desc).map (fun d => d.parameters.length) = some 1 := by decide +kernel
theorem jh_Sk_add : jy_Sk_add.cls = "PleasureGarden$Sky" ∧ jy_Sk_add.cls ≠ "java/lang/invoke/MethodHandle" ∧ jy_Sk_add.cls ≠ "java/lang/invoke/VarHandle" ∧ (parseMethodDescriptor jy_Sk_add.desc).map (fun d => d.parameters.length) = some 2 := by decide +kernel
theorem jh_Sk_rains : jy_Sk_rains.cls = "PleasureGarden$Sky" ∧ jy_Sk_rains.cls ≠ "java/lang/invoke/MethodHandle" ∧ jy_Sk_rains.cls ≠ "java/lang/invoke/VarHandle" ∧ (parseMethodDescriptor jy_Sk_rains.desc).map (fun d => d.parameters.length) = some 1 := by decide +kernel
theorem jh_Sk_wetMinutes : jy_Sk_wetMinutes.cls = "PleasureGarden$Sky" ∧ jy_Sk_wetMinutes.cls ≠ "java/lang/invoke/MethodHandle" ∧ jy_Sk_wetMinutes.cls ≠ "java/lang/invoke/VarHandle" ∧ (parseMethodDescriptor jy_Sk_wetMinutes.desc).map (fun d => d.parameters.length) = some 2 := by decide +kernel
theorem jh_Sk_clear : jy_Sk_clear.cls = "PleasureGarden$Sky" ∧ jy_Sk_clear.cls ≠ "java/lang/invoke/MethodHandle" ∧ jy_Sk_clear.cls ≠ "java/lang/invoke/VarHandle" ∧ (parseMethodDescriptor jy_Sk_clear.desc).map (fun d => d.parameters.length) = some 0 := by decide +kernel
theorem jh_Gu_has : jy_Gu_has.cls = "PleasureGarden$Guests" ∧ jy_Gu_has.cls ≠ "java/lang/invoke/MethodHandle" ∧ jy_Gu_has.cls ≠ "java/lang/invoke/VarHandle" ∧ (parseMethodDescriptor jy_Gu_has.desc).map (fun d => d.parameters.length) = some 1 := by decide +kernel
theorem jh_Gu_add : jy_Gu_add.cls = "PleasureGarden$Guests" ∧ jy_Gu_add.cls ≠ "java/lang/invoke/MethodHandle" ∧ jy_Gu_add.cls ≠ "java/lang/invoke/VarHandle" ∧ (parseMethodDescriptor jy_Gu_add.desc).map (fun d => d.parameters.length) = some 3 := by decide +kernel
theorem jh_Gu_showsTwice : jy_Gu_showsTwice.cls = "PleasureGarden$Guests" ∧ jy_Gu_showsTwice.cls ≠ "java/lang/invoke/MethodHandle" ∧ jy_Gu_showsTwice.cls ≠ "java/lang/invoke/VarHandle" ∧ (parseMethodDescriptor jy_Gu_showsTwice.desc).map (fun d => d.parameters.length) = some 1 := by decide +kernel
theorem jh_Gu_headsAt : jy_Gu_headsAt.cls = "PleasureGarden$Guests" ∧ jy_Gu_headsAt.cls ≠ "java/lang/invoke/MethodHandle" ∧ jy_Gu_headsAt.cls ≠ "java/lang/invoke/VarHandle" ∧ (parseMethodDescriptor jy_Gu_headsAt.desc).map (fun d => d.parameters.length) = some 1 := by decide +kernel
theorem jh_Gu_headsIn : jy_Gu_headsIn.cls = "PleasureGarden$Guests" ∧ jy_Gu_headsIn.cls ≠ "java/lang/invoke/MethodHandle" ∧ jy_Gu_headsIn.cls ≠ "java/lang/invoke/VarHandle" ∧ (parseMethodDescriptor jy_Gu_headsIn.desc).map (fun d => d.parameters.length) = some 0 := by decide +kernel
theorem jh_Gu_headsThatCame : jy_Gu_headsThatCame.cls = "PleasureGarden$Guests" ∧ jy_Gu_headsThatCame.cls ≠ "java/lang/invoke/MethodHandle" ∧ jy_Gu_headsThatCame.cls ≠ "java/lang/invoke/VarHandle" ∧ (parseMethodDescriptor jy_Gu_headsThatCame.desc).map (fun d => d.parameters.length) = some 0 := by decide +kernel
theorem jh_Pa_begin : jy_Pa_begin.cls = "PleasureGarden$Party" ∧ jy_Pa_begin.cls ≠ "java/lang/invoke/MethodHandle" ∧ jy_Pa_begin.cls ≠ "java/lang/invoke/VarHandle" ∧ (parseMethodDescriptor jy_Pa_begin.desc).map (fun d => d.parameters.length) = some 3 := by decide +kernel
theorem jh_Pa_isIn : jy_Pa_isIn.cls = "PleasureGarden$Party" ∧ jy_Pa_isIn.cls ≠ "java/lang/invoke/MethodHandle" ∧ jy_Pa_isIn.cls ≠ "java/lang/invoke/VarHandle" ∧ (parseMethodDescriptor jy_Pa_isIn.desc).map (fun d => d.parameters.length) = some 0 := by decide +kernel
theorem jh_Pa_tell : jy_Pa_tell.cls = "PleasureGarden$Party" ∧ jy_Pa_tell.cls ≠ "java/lang/invoke/MethodHandle" ∧ jy_Pa_tell.cls ≠ "java/lang/invoke/VarHandle" ∧ (parseMethodDescriptor jy_Pa_tell.desc).map (fun d => d.parameters.length) = some 1 := by decide +kernel
theorem jh_Wa_openStay : jy_Wa_openStay.cls = "PleasureGarden$Watch" ∧ jy_Wa_openStay.cls ≠ "java/lang/invoke/MethodHandle" ∧ jy_Wa_openStay.cls ≠ "java/lang/invoke/VarHandle" ∧ (parseMethodDescriptor jy_Wa_openStay.desc).map (fun d => d.parameters.length) = some 2 := by decide +kernel
theorem jh_Wa_endStay : jy_Wa_endStay.cls = "PleasureGarden$Watch" ∧ jy_Wa_endStay.cls ≠ "java/lang/invoke/MethodHandle" ∧ jy_Wa_endStay.cls ≠ "java/lang/invoke/VarHandle" ∧ (parseMethodDescriptor jy_Wa_endStay.desc).map (fun d => d.parameters.length) = some 1 := by decide +kernel
theorem jh_Wa_tell : jy_Wa_tell.cls = "PleasureGarden$Watch" ∧ jy_Wa_tell.cls ≠ "java/lang/invoke/MethodHandle" ∧ jy_Wa_tell.cls ≠ "java/lang/invoke/VarHandle" ∧ (parseMethodDescriptor jy_Wa_tell.desc).map (fun d => d.parameters.length) = some 2 := by decide +kernel
theorem jh_Wa_witnesses : jy_Wa_witnesses.cls = "PleasureGarden$Watch" ∧ jy_Wa_witnesses.cls ≠ "java/lang/invoke/MethodHandle" ∧ jy_Wa_witnesses.cls ≠ "java/lang/invoke/VarHandle" ∧ (parseMethodDescriptor jy_Wa_witnesses.desc).map (fun d => d.parameters.length) = some 1 := by decide +kernel
theorem jh_Wa_suspicion : jy_Wa_suspicion.cls = "PleasureGarden$Watch" ∧ jy_Wa_suspicion.cls ≠ "java/lang/invoke/MethodHandle" ∧ jy_Wa_suspicion.cls ≠ "java/lang/invoke/VarHandle" ∧ (parseMethodDescriptor jy_Wa_suspicion.desc).map (fun d => d.parameters.length) = some 1 := by decide +kernel
theorem jh_Wa_saw : jy_Wa_saw.cls = "PleasureGarden$Watch" ∧ jy_Wa_saw.cls ≠ "java/lang/invoke/MethodHandle" ∧ jy_Wa_saw.cls ≠ "java/lang/invoke/VarHandle" ∧ (parseMethodDescriptor jy_Wa_saw.desc).map (fun d => d.parameters.length) = some 2 := by decide +kernel
theorem jh_Wa_clear : jy_Wa_clear.cls = "PleasureGarden$Watch" ∧ jy_Wa_clear.cls ≠ "java/lang/invoke/MethodHandle" ∧ jy_Wa_clear.cls ≠ "java/lang/invoke/VarHandle" ∧ (parseMethodDescriptor jy_Wa_clear.desc).map (fun d => d.parameters.length) = some 0 := by decide +kernel
theorem jh_La_has : jy_La_has.cls = "PleasureGarden$Lamps" ∧ jy_La_has.cls ≠ "java/lang/invoke/MethodHandle" ∧ jy_La_has.cls ≠ "java/lang/invoke/VarHandle" ∧ (parseMethodDescriptor jy_La_has.desc).map (fun d => d.parameters.length) = some 1 := by decide +kernel
theorem jh_La_hang : jy_La_hang.cls = "PleasureGarden$Lamps" ∧ jy_La_hang.cls ≠ "java/lang/invoke/MethodHandle" ∧ jy_La_hang.cls ≠ "java/lang/invoke/VarHandle" ∧ (parseMethodDescriptor jy_La_hang.desc).map (fun d => d.parameters.length) = some 1 := by decide +kernel
theorem jh_La_join : jy_La_join.cls = "PleasureGarden$Lamps" ∧ jy_La_join.cls ≠ "java/lang/invoke/MethodHandle" ∧ jy_La_join.cls ≠ "java/lang/invoke/VarHandle" ∧ (parseMethodDescriptor jy_La_join.desc).map (fun d => d.parameters.length) = some 3 := by decide +kernel
theorem jh_La_secondOf : jy_La_secondOf.cls = "PleasureGarden$Lamps" ∧ jy_La_secondOf.cls ≠ "java/lang/invoke/MethodHandle" ∧ jy_La_secondOf.cls ≠ "java/lang/invoke/VarHandle" ∧ (parseMethodDescriptor jy_La_secondOf.desc).map (fun d => d.parameters.length) = some 3 := by decide +kernel
theorem jh_La_kindle : jy_La_kindle.cls = "PleasureGarden$Lamps" ∧ jy_La_kindle.cls ≠ "java/lang/invoke/MethodHandle" ∧ jy_La_kindle.cls ≠ "java/lang/invoke/VarHandle" ∧ (parseMethodDescriptor jy_La_kindle.desc).map (fun d => d.parameters.length) = some 3 := by decide +kernel
theorem jh_La_isLit : jy_La_isLit.cls = "PleasureGarden$Lamps" ∧ jy_La_isLit.cls ≠ "java/lang/invoke/MethodHandle" ∧ jy_La_isLit.cls ≠ "java/lang/invoke/VarHandle" ∧ (parseMethodDescriptor jy_La_isLit.desc).map (fun d => d.parameters.length) = some 1 := by decide +kernel
theorem jh_La_unlit : jy_La_unlit.cls = "PleasureGarden$Lamps" ∧ jy_La_unlit.cls ≠ "java/lang/invoke/MethodHandle" ∧ jy_La_unlit.cls ≠ "java/lang/invoke/VarHandle" ∧ (parseMethodDescriptor jy_La_unlit.desc).map (fun d => d.parameters.length) = some 0 := by decide +kernel
theorem jh_La_burntOut : jy_La_burntOut.cls = "PleasureGarden$Lamps" ∧ jy_La_burntOut.cls ≠ "java/lang/invoke/MethodHandle" ∧ jy_La_burntOut.cls ≠ "java/lang/invoke/VarHandle" ∧ (parseMethodDescriptor jy_La_burntOut.desc).map (fun d => d.parameters.length) = some 1 := by decide +kernel
theorem jh_La_bestStart : jy_La_bestStart.cls = "PleasureGarden$Lamps" ∧ jy_La_bestStart.cls ≠ "java/lang/invoke/MethodHandle" ∧ jy_La_bestStart.cls ≠ "java/lang/invoke/VarHandle" ∧ (parseMethodDescriptor jy_La_bestStart.desc).map (fun d => d.parameters.length) = some 1 := by decide +kernel
theorem jh_La_costOf : jy_La_costOf.cls = "PleasureGarden$Lamps" ∧ jy_La_costOf.cls ≠ "java/lang/invoke/MethodHandle" ∧ jy_La_costOf.cls ≠ "java/lang/invoke/VarHandle" ∧ (parseMethodDescriptor jy_La_costOf.desc).map (fun d => d.parameters.length) = some 2 := by decide +kernel
theorem jh_La_putOut : jy_La_putOut.cls = "PleasureGarden$Lamps" ∧ jy_La_putOut.cls ≠ "java/lang/invoke/MethodHandle" ∧ jy_La_putOut.cls ≠ "java/lang/invoke/VarHandle" ∧ (parseMethodDescriptor jy_La_putOut.desc).map (fun d => d.parameters.length) = some 0 := by decide +kernel
theorem jh_Bo_has : jy_Bo_has.cls = "PleasureGarden$Boxes" ∧ jy_Bo_has.cls ≠ "java/lang/invoke/MethodHandle" ∧ jy_Bo_has.cls ≠ "java/lang/invoke/VarHandle" ∧ (parseMethodDescriptor jy_Bo_has.desc).map (fun d => d.parameters.length) = some 1 := by decide +kernel
theorem jh_Bo_add : jy_Bo_add.cls = "PleasureGarden$Boxes" ∧ jy_Bo_add.cls ≠ "java/lang/invoke/MethodHandle" ∧ jy_Bo_add.cls ≠ "java/lang/invoke/VarHandle" ∧ (parseMethodDescriptor jy_Bo_add.desc).map (fun d => d.parameters.length) = some 2 := by decide +kernel
theorem jh_Ki_append : jy_Ki_append.cls = "PleasureGarden$Kitchen" ∧ jy_Ki_append.cls ≠ "java/lang/invoke/MethodHandle" ∧ jy_Ki_append.cls ≠ "java/lang/invoke/VarHandle" ∧ (parseMethodDescriptor jy_Ki_append.desc).map (fun d => d.parameters.length) = some 3 := by decide +kernel
theorem jh_Ki_serveFirst : jy_Ki_serveFirst.cls = "PleasureGarden$Kitchen" ∧ jy_Ki_serveFirst.cls ≠ "java/lang/invoke/MethodHandle" ∧ jy_Ki_serveFirst.cls ≠ "java/lang/invoke/VarHandle" ∧ (parseMethodDescriptor jy_Ki_serveFirst.desc).map (fun d => d.parameters.length) = some 0 := by decide +kernel
theorem jh_Ki_removeFirst : jy_Ki_removeFirst.cls = "PleasureGarden$Kitchen" ∧ jy_Ki_removeFirst.cls ≠ "java/lang/invoke/MethodHandle" ∧ jy_Ki_removeFirst.cls ≠ "java/lang/invoke/VarHandle" ∧ (parseMethodDescriptor jy_Ki_removeFirst.desc).map (fun d => d.parameters.length) = some 0 := by decide +kernel
theorem jh_Ki_dropOrdersOf : jy_Ki_dropOrdersOf.cls = "PleasureGarden$Kitchen" ∧ jy_Ki_dropOrdersOf.cls ≠ "java/lang/invoke/MethodHandle" ∧ jy_Ki_dropOrdersOf.cls ≠ "java/lang/invoke/VarHandle" ∧ (parseMethodDescriptor jy_Ki_dropOrdersOf.desc).map (fun d => d.parameters.length) = some 1 := by decide +kernel
theorem jh_Ki_move : jy_Ki_move.cls = "PleasureGarden$Kitchen" ∧ jy_Ki_move.cls ≠ "java/lang/invoke/MethodHandle" ∧ jy_Ki_move.cls ≠ "java/lang/invoke/VarHandle" ∧ (parseMethodDescriptor jy_Ki_move.desc).map (fun d => d.parameters.length) = some 2 := by decide +kernel
theorem jh_Pr_has : jy_Pr_has.cls = "PleasureGarden$Prices" ∧ jy_Pr_has.cls ≠ "java/lang/invoke/MethodHandle" ∧ jy_Pr_has.cls ≠ "java/lang/invoke/VarHandle" ∧ (parseMethodDescriptor jy_Pr_has.desc).map (fun d => d.parameters.length) = some 1 := by decide +kernel
theorem jh_Pr_write : jy_Pr_write.cls = "PleasureGarden$Prices" ∧ jy_Pr_write.cls ≠ "java/lang/invoke/MethodHandle" ∧ jy_Pr_write.cls ≠ "java/lang/invoke/VarHandle" ∧ (parseMethodDescriptor jy_Pr_write.desc).map (fun d => d.parameters.length) = some 2 := by decide +kernel
theorem jh_Pr_make : jy_Pr_make.cls = "PleasureGarden$Prices" ∧ jy_Pr_make.cls ≠ "java/lang/invoke/MethodHandle" ∧ jy_Pr_make.cls ≠ "java/lang/invoke/VarHandle" ∧ (parseMethodDescriptor jy_Pr_make.desc).map (fun d => d.parameters.length) = some 3 := by decide +kernel
theorem jh_Pr_latest : jy_Pr_latest.cls = "PleasureGarden$Prices" ∧ jy_Pr_latest.cls ≠ "java/lang/invoke/MethodHandle" ∧ jy_Pr_latest.cls ≠ "java/lang/invoke/VarHandle" ∧ (parseMethodDescriptor jy_Pr_latest.desc).map (fun d => d.parameters.length) = some 3 := by decide +kernel
theorem jh_Pr_read : jy_Pr_read.cls = "PleasureGarden$Prices" ∧ jy_Pr_read.cls ≠ "java/lang/invoke/MethodHandle" ∧ jy_Pr_read.cls ≠ "java/lang/invoke/VarHandle" ∧ (parseMethodDescriptor jy_Pr_read.desc).map (fun d => d.parameters.length) = some 1 := by decide +kernel
theorem jh_Re_valueOf : jy_Re_valueOf.cls = "PleasureGarden$Reader" ∧ jy_Re_valueOf.cls ≠ "java/lang/invoke/MethodHandle" ∧ jy_Re_valueOf.cls ≠ "java/lang/invoke/VarHandle" ∧ (parseMethodDescriptor jy_Re_valueOf.desc).map (fun d => d.parameters.length) = some 3 := by decide +kernel
theorem jh_Re_next : jy_Re_next.cls = "PleasureGarden$Reader" ∧ jy_Re_next.cls ≠ "java/lang/invoke/MethodHandle" ∧ jy_Re_next.cls ≠ "java/lang/invoke/VarHandle" ∧ (parseMethodDescriptor jy_Re_next.desc).map (fun d => d.parameters.length) = some 0 := by decide +kernel
theorem jh_Re_take : jy_Re_take.cls = "PleasureGarden$Reader" ∧ jy_Re_take.cls ≠ "java/lang/invoke/MethodHandle" ∧ jy_Re_take.cls ≠ "java/lang/invoke/VarHandle" ∧ (parseMethodDescriptor jy_Re_take.desc).map (fun d => d.parameters.length) = some 1 := by decide +kernel
theorem jh_Re_fail : jy_Re_fail.cls = "PleasureGarden$Reader" ∧ jy_Re_fail.cls ≠ "java/lang/invoke/MethodHandle" ∧ jy_Re_fail.cls ≠ "java/lang/invoke/VarHandle" ∧ (parseMethodDescriptor jy_Re_fail.desc).map (fun d => d.parameters.length) = some 0 := by decide +kernel
theorem jh_Re_expression : jy_Re_expression.cls = "PleasureGarden$Reader" ∧ jy_Re_expression.cls ≠ "java/lang/invoke/MethodHandle" ∧ jy_Re_expression.cls ≠ "java/lang/invoke/VarHandle" ∧ (parseMethodDescriptor jy_Re_expression.desc).map (fun d => d.parameters.length) = some 2 := by decide +kernel
theorem jh_Re_operand : jy_Re_operand.cls = "PleasureGarden$Reader" ∧ jy_Re_operand.cls ≠ "java/lang/invoke/MethodHandle" ∧ jy_Re_operand.cls ≠ "java/lang/invoke/VarHandle" ∧ (parseMethodDescriptor jy_Re_operand.desc).map (fun d => d.parameters.length) = some 1 := by decide +kernel
theorem jh_Re_number : jy_Re_number.cls = "PleasureGarden$Reader" ∧ jy_Re_number.cls ≠ "java/lang/invoke/MethodHandle" ∧ jy_Re_number.cls ≠ "java/lang/invoke/VarHandle" ∧ (parseMethodDescriptor jy_Re_number.desc).map (fun d => d.parameters.length) = some 0 := by decide +kernel
theorem jh_Re_isDigit : jy_Re_isDigit.cls = "PleasureGarden$Reader" ∧ jy_Re_isDigit.cls ≠ "java/lang/invoke/MethodHandle" ∧ jy_Re_isDigit.cls ≠ "java/lang/invoke/VarHandle" ∧ (parseMethodDescriptor jy_Re_isDigit.desc).map (fun d => d.parameters.length) = some 1 := by decide +kernel
theorem jh_Re_levelOf : jy_Re_levelOf.cls = "PleasureGarden$Reader" ∧ jy_Re_levelOf.cls ≠ "java/lang/invoke/MethodHandle" ∧ jy_Re_levelOf.cls ≠ "java/lang/invoke/VarHandle" ∧ (parseMethodDescriptor jy_Re_levelOf.desc).map (fun d => d.parameters.length) = some 1 := by decide +kernel
theorem jh_Re_joined : jy_Re_joined.cls = "PleasureGarden$Reader" ∧ jy_Re_joined.cls ≠ "java/lang/invoke/MethodHandle" ∧ jy_Re_joined.cls ≠ "java/lang/invoke/VarHandle" ∧ (parseMethodDescriptor jy_Re_joined.desc).map (fun d => d.parameters.length) = some 3 := by decide +kernel
theorem jh_Le_keep : jy_Le_keep.cls = "PleasureGarden$Ledger" ∧ jy_Le_keep.cls ≠ "java/lang/invoke/MethodHandle" ∧ jy_Le_keep.cls ≠ "java/lang/invoke/VarHandle" ∧ (parseMethodDescriptor jy_Le_keep.desc).map (fun d => d.parameters.length) = some 3 := by decide +kernel
theorem jh_Le_meanNearest : jy_Le_meanNearest.cls = "PleasureGarden$Ledger" ∧ jy_Le_meanNearest.cls ≠ "java/lang/invoke/MethodHandle" ∧ jy_Le_meanNearest.cls ≠ "java/lang/invoke/VarHandle" ∧ (parseMethodDescriptor jy_Le_meanNearest.desc).map (fun d => d.parameters.length) = some 1 := by decide +kernel
theorem jh_M_among : jy_M_among.cls = "PleasureGardenModel" ∧ jy_M_among.cls ≠ "java/lang/invoke/MethodHandle" ∧ jy_M_among.cls ≠ "java/lang/invoke/VarHandle" ∧ (parseMethodDescriptor jy_M_among.desc).map (fun d => d.parameters.length) = some 3 := by decide +kernel
theorem jh_M_isPlace : jy_M_isPlace.cls = "PleasureGardenModel" ∧ jy_M_isPlace.cls ≠ "java/lang/invoke/MethodHandle" ∧ jy_M_isPlace.cls ≠ "java/lang/invoke/VarHandle" ∧ (parseMethodDescriptor jy_M_isPlace.desc).map (fun d => d.parameters.length) = some 1 := by decide +kernel
theorem jh_M_place : jy_M_place.cls = "PleasureGardenModel" ∧ jy_M_place.cls ≠ "java/lang/invoke/MethodHandle" ∧ jy_M_place.cls ≠ "java/lang/invoke/VarHandle" ∧ (parseMethodDescriptor jy_M_place.desc).map (fun d => d.parameters.length) = some 2 := by decide +kernel
theorem jh_M_walk : jy_M_walk.cls = "PleasureGardenModel" ∧ jy_M_walk.cls ≠ "java/lang/invoke/MethodHandle" ∧ jy_M_walk.cls ≠ "java/lang/invoke/VarHandle" ∧ (parseMethodDescriptor jy_M_walk.desc).map (fun d => d.parameters.length) = some 3 := by decide +kernel
theorem jh_M_findFar : jy_M_findFar.cls = "PleasureGardenModel" ∧ jy_M_findFar.cls ≠ "java/lang/invoke/MethodHandle" ∧ jy_M_findFar.cls ≠ "java/lang/invoke/VarHandle" ∧ (parseMethodDescriptor jy_M_findFar.desc).map (fun d => d.parameters.length) = some 1 := by decide +kernel
theorem jh_M_way : jy_M_way.cls = "PleasureGardenModel" ∧ jy_M_way.cls ≠ "java/lang/invoke/MethodHandle" ∧ jy_M_way.cls ≠ "java/lang/invoke/VarHandle" ∧ (parseMethodDescriptor jy_M_way.desc).map (fun d => d.parameters.length) = some 2 := by decide +kernel
theorem jh_M_rain : jy_M_rain.cls = "PleasureGardenModel" ∧ jy_M_rain.cls ≠ "java/lang/invoke/MethodHandle" ∧ jy_M_rain.cls ≠ "java/lang/invoke/VarHandle" ∧ (parseMethodDescriptor jy_M_rain.desc).map (fun d => d.parameters.length) = some 2 := by decide +kernel
theorem jh_M_rainsIn : jy_M_rainsIn.cls = "PleasureGardenModel" ∧ jy_M_rainsIn.cls ≠ "java/lang/invoke/MethodHandle" ∧ jy_M_rainsIn.cls ≠ "java/lang/invoke/VarHandle" ∧ (parseMethodDescriptor jy_M_rainsIn.desc).map (fun d => d.parameters.length) = some 1 := by decide +kernel
theorem jh_M_rainSince : jy_M_rainSince.cls = "PleasureGardenModel" ∧ jy_M_rainSince.cls ≠ "java/lang/invoke/MethodHandle" ∧ jy_M_rainSince.cls ≠ "java/lang/invoke/VarHandle" ∧ (parseMethodDescriptor jy_M_rainSince.desc).map (fun d => d.parameters.length) = some 1 := by decide +kernel
theorem jh_M_isParty : jy_M_isParty.cls = "PleasureGardenModel" ∧ jy_M_isParty.cls ≠ "java/lang/invoke/MethodHandle" ∧ jy_M_isParty.cls ≠ "java/lang/invoke/VarHandle" ∧ (parseMethodDescriptor jy_M_isParty.desc).map (fun d => d.parameters.length) = some 1 := by decide +kernel
theorem jh_M_isTicket : jy_M_isTicket.cls = "PleasureGardenModel" ∧ jy_M_isTicket.cls ≠ "java/lang/invoke/MethodHandle" ∧ jy_M_isTicket.cls ≠ "java/lang/invoke/VarHandle" ∧ (parseMethodDescriptor jy_M_isTicket.desc).map (fun d => d.parameters.length) = some 1 := by decide +kernel
theorem jh_M_sell : jy_M_sell.cls = "PleasureGardenModel" ∧ jy_M_sell.cls ≠ "java/lang/invoke/MethodHandle" ∧ jy_M_sell.cls ≠ "java/lang/invoke/VarHandle" ∧ (parseMethodDescriptor jy_M_sell.desc).map (fun d => d.parameters.length) = some 2 := by decide +kernel
theorem jh_M_enter : jy_M_enter.cls = "PleasureGardenModel" ∧ jy_M_enter.cls ≠ "java/lang/invoke/MethodHandle" ∧ jy_M_enter.cls ≠ "java/lang/invoke/VarHandle" ∧ (parseMethodDescriptor jy_M_enter.desc).map (fun d => d.parameters.length) = some 2 := by decide +kernel
theorem jh_M_getsUp : jy_M_getsUp.cls = "PleasureGardenModel" ∧ jy_M_getsUp.cls ≠ "java/lang/invoke/MethodHandle" ∧ jy_M_getsUp.cls ≠ "java/lang/invoke/VarHandle" ∧ (parseMethodDescriptor jy_M_getsUp.desc).map (fun d => d.parameters.length) = some 1 := by decide +kernel
theorem jh_M_goes : jy_M_goes.cls = "PleasureGardenModel" ∧ jy_M_goes.cls ≠ "java/lang/invoke/MethodHandle" ∧ jy_M_goes.cls ≠ "java/lang/invoke/VarHandle" ∧ (parseMethodDescriptor jy_M_goes.desc).map (fun d => d.parameters.length) = some 3 := by decide +kernel
theorem jh_M_go : jy_M_go.cls = "PleasureGardenModel" ∧ jy_M_go.cls ≠ "java/lang/invoke/MethodHandle" ∧ jy_M_go.cls ≠ "java/lang/invoke/VarHandle" ∧ (parseMethodDescriptor jy_M_go.desc).map (fun d => d.parameters.length) = some 2 := by decide +kernel
theorem jh_M_goesOut : jy_M_goesOut.cls = "PleasureGardenModel" ∧ jy_M_goesOut.cls ≠ "java/lang/invoke/MethodHandle" ∧ jy_M_goesOut.cls ≠ "java/lang/invoke/VarHandle" ∧ (parseMethodDescriptor jy_M_goesOut.desc).map (fun d => d.parameters.length) = some 1 := by decide +kernel
theorem jh_M_leave : jy_M_leave.cls = "PleasureGardenModel" ∧ jy_M_leave.cls ≠ "java/lang/invoke/MethodHandle" ∧ jy_M_leave.cls ≠ "java/lang/invoke/VarHandle" ∧ (parseMethodDescriptor jy_M_leave.desc).map (fun d => d.parameters.length) = some 1 := by decide +kernel
theorem jh_M_party : jy_M_party.cls = "PleasureGardenModel" ∧ jy_M_party.cls ≠ "java/lang/invoke/MethodHandle" ∧ jy_M_party.cls ≠ "java/lang/invoke/VarHandle" ∧ (parseMethodDescriptor jy_M_party.desc).map (fun d => d.parameters.length) = some 2 := by decide +kernel
theorem jh_M_headsAt : jy_M_headsAt.cls = "PleasureGardenModel" ∧ jy_M_headsAt.cls ≠ "java/lang/invoke/MethodHandle" ∧ jy_M_headsAt.cls ≠ "java/lang/invoke/VarHandle" ∧ (parseMethodDescriptor jy_M_headsAt.desc).map (fun d => d.parameters.length) = some 1 := by decide +kernel
theorem jh_M_heads : jy_M_heads.cls = "PleasureGardenModel" ∧ jy_M_heads.cls ≠ "java/lang/invoke/MethodHandle" ∧ jy_M_heads.cls ≠ "java/lang/invoke/VarHandle" ∧ (parseMethodDescriptor jy_M_heads.desc).map (fun d => d.parameters.length) = some 1 := by decide +kernel
theorem jh_M_headsIn : jy_M_headsIn.cls = "PleasureGardenModel" ∧ jy_M_headsIn.cls ≠ "java/lang/invoke/MethodHandle" ∧ jy_M_headsIn.cls ≠ "java/lang/invoke/VarHandle" ∧ (parseMethodDescriptor jy_M_headsIn.desc).map (fun d => d.parameters.length) = some 0 := by decide +kernel
theorem jh_M_flee : jy_M_flee.cls = "PleasureGardenModel" ∧ jy_M_flee.cls ≠ "java/lang/invoke/MethodHandle" ∧ jy_M_flee.cls ≠ "java/lang/invoke/VarHandle" ∧ (parseMethodDescriptor jy_M_flee.desc).map (fun d => d.parameters.length) = some 1 := by decide +kernel
theorem jh_M_keep : jy_M_keep.cls = "PleasureGardenModel" ∧ jy_M_keep.cls ≠ "java/lang/invoke/MethodHandle" ∧ jy_M_keep.cls ≠ "java/lang/invoke/VarHandle" ∧ (parseMethodDescriptor jy_M_keep.desc).map (fun d => d.parameters.length) = some 0 := by decide +kernel
theorem jh_M_minutes : jy_M_minutes.cls = "PleasureGardenModel" ∧ jy_M_minutes.cls ≠ "java/lang/invoke/MethodHandle" ∧ jy_M_minutes.cls ≠ "java/lang/invoke/VarHandle" ∧ (parseMethodDescriptor jy_M_minutes.desc).map (fun d => d.parameters.length) = some 1 := by decide +kernel
theorem jh_M_isLamp : jy_M_isLamp.cls = "PleasureGardenModel" ∧ jy_M_isLamp.cls ≠ "java/lang/invoke/MethodHandle" ∧ jy_M_isLamp.cls ≠ "java/lang/invoke/VarHandle" ∧ (parseMethodDescriptor jy_M_isLamp.desc).map (fun d => d.parameters.length) = some 1 := by decide +kernel
theorem jh_M_lamp : jy_M_lamp.cls = "PleasureGardenModel" ∧ jy_M_lamp.cls ≠ "java/lang/invoke/MethodHandle" ∧ jy_M_lamp.cls ≠ "java/lang/invoke/VarHandle" ∧ (parseMethodDescriptor jy_M_lamp.desc).map (fun d => d.parameters.length) = some 1 := by decide +kernel
theorem jh_M_fuse : jy_M_fuse.cls = "PleasureGardenModel" ∧ jy_M_fuse.cls ≠ "java/lang/invoke/MethodHandle" ∧ jy_M_fuse.cls ≠ "java/lang/invoke/VarHandle" ∧ (parseMethodDescriptor jy_M_fuse.desc).map (fun d => d.parameters.length) = some 3 := by decide +kernel
theorem jh_M_find : jy_M_find.cls = "PleasureGardenModel" ∧ jy_M_find.cls ≠ "java/lang/invoke/MethodHandle" ∧ jy_M_find.cls ≠ "java/lang/invoke/VarHandle" ∧ (parseMethodDescriptor jy_M_find.desc).map (fun d => d.parameters.length) = some 2 := by decide +kernel
theorem jh_M_light : jy_M_light.cls = "PleasureGardenModel" ∧ jy_M_light.cls ≠ "java/lang/invoke/MethodHandle" ∧ jy_M_light.cls ≠ "java/lang/invoke/VarHandle" ∧ (parseMethodDescriptor jy_M_light.desc).map (fun d => d.parameters.length) = some 2 := by decide +kernel
theorem jh_M_burns : jy_M_burns.cls = "PleasureGardenModel" ∧ jy_M_burns.cls ≠ "java/lang/invoke/MethodHandle" ∧ jy_M_burns.cls ≠ "java/lang/invoke/VarHandle" ∧ (parseMethodDescriptor jy_M_burns.desc).map (fun d => d.parameters.length) = some 1 := by decide +kernel
theorem jh_M_dark : jy_M_dark.cls = "PleasureGardenModel" ∧ jy_M_dark.cls ≠ "java/lang/invoke/MethodHandle" ∧ jy_M_dark.cls ≠ "java/lang/invoke/VarHandle" ∧ (parseMethodDescriptor jy_M_dark.desc).map (fun d => d.parameters.length) = some 0 := by decide +kernel
theorem jh_M_spent : jy_M_spent.cls = "PleasureGardenModel" ∧ jy_M_spent.cls ≠ "java/lang/invoke/MethodHandle" ∧ jy_M_spent.cls ≠ "java/lang/invoke/VarHandle" ∧ (parseMethodDescriptor jy_M_spent.desc).map (fun d => d.parameters.length) = some 0 := by decide +kernel
theorem jh_M_best : jy_M_best.cls = "PleasureGardenModel" ∧ jy_M_best.cls ≠ "java/lang/invoke/MethodHandle" ∧ jy_M_best.cls ≠ "java/lang/invoke/VarHandle" ∧ (parseMethodDescriptor jy_M_best.desc).map (fun d => d.parameters.length) = some 1 := by decide +kernel
theorem jh_M_isBox : jy_M_isBox.cls = "PleasureGardenModel" ∧ jy_M_isBox.cls ≠ "java/lang/invoke/MethodHandle" ∧ jy_M_isBox.cls ≠ "java/lang/invoke/VarHandle" ∧ (parseMethodDescriptor jy_M_isBox.desc).map (fun d => d.parameters.length) = some 1 := by decide +kernel
theorem jh_M_box : jy_M_box.cls = "PleasureGardenModel" ∧ jy_M_box.cls ≠ "java/lang/invoke/MethodHandle" ∧ jy_M_box.cls ≠ "java/lang/invoke/VarHandle" ∧ (parseMethodDescriptor jy_M_box.desc).map (fun d => d.parameters.length) = some 2 := by decide +kernel
theorem jh_M_whoIn : jy_M_whoIn.cls = "PleasureGardenModel" ∧ jy_M_whoIn.cls ≠ "java/lang/invoke/MethodHandle" ∧ jy_M_whoIn.cls ≠ "java/lang/invoke/VarHandle" ∧ (parseMethodDescriptor jy_M_whoIn.desc).map (fun d => d.parameters.length) = some 1 := by decide +kernel
theorem jh_M_let : jy_M_let.cls = "PleasureGardenModel" ∧ jy_M_let.cls ≠ "java/lang/invoke/MethodHandle" ∧ jy_M_let.cls ≠ "java/lang/invoke/VarHandle" ∧ (parseMethodDescriptor jy_M_let.desc).map (fun d => d.parameters.length) = some 2 := by decide +kernel
theorem jh_M_rise : jy_M_rise.cls = "PleasureGardenModel" ∧ jy_M_rise.cls ≠ "java/lang/invoke/MethodHandle" ∧ jy_M_rise.cls ≠ "java/lang/invoke/VarHandle" ∧ (parseMethodDescriptor jy_M_rise.desc).map (fun d => d.parameters.length) = some 1 := by decide +kernel
theorem jh_M_in : jy_M_in.cls = "PleasureGardenModel" ∧ jy_M_in.cls ≠ "java/lang/invoke/MethodHandle" ∧ jy_M_in.cls ≠ "java/lang/invoke/VarHandle" ∧ (parseMethodDescriptor jy_M_in.desc).map (fun d => d.parameters.length) = some 1 := by decide +kernel
theorem jh_M_ham : jy_M_ham.cls = "PleasureGardenModel" ∧ jy_M_ham.cls ≠ "java/lang/invoke/MethodHandle" ∧ jy_M_ham.cls ≠ "java/lang/invoke/VarHandle" ∧ (parseMethodDescriptor jy_M_ham.desc).map (fun d => d.parameters.length) = some 1 := by decide +kernel
theorem jh_M_rule : jy_M_rule.cls = "PleasureGardenModel" ∧ jy_M_rule.cls ≠ "java/lang/invoke/MethodHandle" ∧ jy_M_rule.cls ≠ "java/lang/invoke/VarHandle" ∧ (parseMethodDescriptor jy_M_rule.desc).map (fun d => d.parameters.length) = some 2 := by decide +kernel
theorem jh_M_order : jy_M_order.cls = "PleasureGardenModel" ∧ jy_M_order.cls ≠ "java/lang/invoke/MethodHandle" ∧ jy_M_order.cls ≠ "java/lang/invoke/VarHandle" ∧ (parseMethodDescriptor jy_M_order.desc).map (fun d => d.parameters.length) = some 2 := by decide +kernel
theorem jh_M_shift : jy_M_shift.cls = "PleasureGardenModel" ∧ jy_M_shift.cls ≠ "java/lang/invoke/MethodHandle" ∧ jy_M_shift.cls ≠ "java/lang/invoke/VarHandle" ∧ (parseMethodDescriptor jy_M_shift.desc).map (fun d => d.parameters.length) = some 2 := by decide +kernel
theorem jh_M_serve : jy_M_serve.cls = "PleasureGardenModel" ∧ jy_M_serve.cls ≠ "java/lang/invoke/MethodHandle" ∧ jy_M_serve.cls ≠ "java/lang/invoke/VarHandle" ∧ (parseMethodDescriptor jy_M_serve.desc).map (fun d => d.parameters.length) = some 0 := by decide +kernel
theorem jh_M_feed : jy_M_feed.cls = "PleasureGardenModel" ∧ jy_M_feed.cls ≠ "java/lang/invoke/MethodHandle" ∧ jy_M_feed.cls ≠ "java/lang/invoke/VarHandle" ∧ (parseMethodDescriptor jy_M_feed.desc).map (fun d => d.parameters.length) = some 2 := by decide +kernel
theorem jh_M_isName : jy_M_isName.cls = "PleasureGardenModel" ∧ jy_M_isName.cls ≠ "java/lang/invoke/MethodHandle" ∧ jy_M_isName.cls ≠ "java/lang/invoke/VarHandle" ∧ (parseMethodDescriptor jy_M_isName.desc).map (fun d => d.parameters.length) = some 1 := by decide +kernel
theorem jh_M_signOf : jy_M_signOf.cls = "PleasureGardenModel" ∧ jy_M_signOf.cls ≠ "java/lang/invoke/MethodHandle" ∧ jy_M_signOf.cls ≠ "java/lang/invoke/VarHandle" ∧ (parseMethodDescriptor jy_M_signOf.desc).map (fun d => d.parameters.length) = some 1 := by decide +kernel
theorem jh_M_tight : jy_M_tight.cls = "PleasureGardenModel" ∧ jy_M_tight.cls ≠ "java/lang/invoke/MethodHandle" ∧ jy_M_tight.cls ≠ "java/lang/invoke/VarHandle" ∧ (parseMethodDescriptor jy_M_tight.desc).map (fun d => d.parameters.length) = some 1 := by decide +kernel
theorem jh_M_lay : jy_M_lay.cls = "PleasureGardenModel" ∧ jy_M_lay.cls ≠ "java/lang/invoke/MethodHandle" ∧ jy_M_lay.cls ≠ "java/lang/invoke/VarHandle" ∧ (parseMethodDescriptor jy_M_lay.desc).map (fun d => d.parameters.length) = some 3 := by decide +kernel
theorem jh_M_done : jy_M_done.cls = "PleasureGardenModel" ∧ jy_M_done.cls ≠ "java/lang/invoke/MethodHandle" ∧ jy_M_done.cls ≠ "java/lang/invoke/VarHandle" ∧ (parseMethodDescriptor jy_M_done.desc).map (fun d => d.parameters.length) = some 2 := by decide +kernel
theorem jh_M_opened : jy_M_opened.cls = "PleasureGardenModel" ∧ jy_M_opened.cls ≠ "java/lang/invoke/MethodHandle" ∧ jy_M_opened.cls ≠ "java/lang/invoke/VarHandle" ∧ (parseMethodDescriptor jy_M_opened.desc).map (fun d => d.parameters.length) = some 0 := by decide +kernel
theorem jh_M_operand : jy_M_operand.cls = "PleasureGardenModel" ∧ jy_M_operand.cls ≠ "java/lang/invoke/MethodHandle" ∧ jy_M_operand.cls ≠ "java/lang/invoke/VarHandle" ∧ (parseMethodDescriptor jy_M_operand.desc).map (fun d => d.parameters.length) = some 1 := by decide +kernel
theorem jh_M_parse : jy_M_parse.cls = "PleasureGardenModel" ∧ jy_M_parse.cls ≠ "java/lang/invoke/MethodHandle" ∧ jy_M_parse.cls ≠ "java/lang/invoke/VarHandle" ∧ (parseMethodDescriptor jy_M_parse.desc).map (fun d => d.parameters.length) = some 1 := by decide +kernel
theorem jh_M_isNight : jy_M_isNight.cls = "PleasureGardenModel" ∧ jy_M_isNight.cls ≠ "java/lang/invoke/MethodHandle" ∧ jy_M_isNight.cls ≠ "java/lang/invoke/VarHandle" ∧ (parseMethodDescriptor jy_M_isNight.desc).map (fun d => d.parameters.length) = some 1 := by decide +kernel
theorem jh_M_price : jy_M_price.cls = "PleasureGardenModel" ∧ jy_M_price.cls ≠ "java/lang/invoke/MethodHandle" ∧ jy_M_price.cls ≠ "java/lang/invoke/VarHandle" ∧ (parseMethodDescriptor jy_M_price.desc).map (fun d => d.parameters.length) = some 2 := by decide +kernel
theorem jh_M_forceOn : jy_M_forceOn.cls = "PleasureGardenModel" ∧ jy_M_forceOn.cls ≠ "java/lang/invoke/MethodHandle" ∧ jy_M_forceOn.cls ≠ "java/lang/invoke/VarHandle" ∧ (parseMethodDescriptor jy_M_forceOn.desc).map (fun d => d.parameters.length) = some 3 := by decide +kernel
theorem jh_M_inForce : jy_M_inForce.cls = "PleasureGardenModel" ∧ jy_M_inForce.cls ≠ "java/lang/invoke/MethodHandle" ∧ jy_M_inForce.cls ≠ "java/lang/invoke/VarHandle" ∧ (parseMethodDescriptor jy_M_inForce.desc).map (fun d => d.parameters.length) = some 3 := by decide +kernel
theorem jh_M_both : jy_M_both.cls = "PleasureGardenModel" ∧ jy_M_both.cls ≠ "java/lang/invoke/MethodHandle" ∧ jy_M_both.cls ≠ "java/lang/invoke/VarHandle" ∧ (parseMethodDescriptor jy_M_both.desc).map (fun d => d.parameters.length) = some 3 := by decide +kernel
theorem jh_M_says : jy_M_says.cls = "PleasureGardenModel" ∧ jy_M_says.cls ≠ "java/lang/invoke/MethodHandle" ∧ jy_M_says.cls ≠ "java/lang/invoke/VarHandle" ∧ (parseMethodDescriptor jy_M_says.desc).map (fun d => d.parameters.length) = some 1 := by decide +kernel
theorem jh_M_coinsBy : jy_M_coinsBy.cls = "PleasureGardenModel" ∧ jy_M_coinsBy.cls ≠ "java/lang/invoke/MethodHandle" ∧ jy_M_coinsBy.cls ≠ "java/lang/invoke/VarHandle" ∧ (parseMethodDescriptor jy_M_coinsBy.desc).map (fun d => d.parameters.length) = some 3 := by decide +kernel
theorem jh_M_tonight : jy_M_tonight.cls = "PleasureGardenModel" ∧ jy_M_tonight.cls ≠ "java/lang/invoke/MethodHandle" ∧ jy_M_tonight.cls ≠ "java/lang/invoke/VarHandle" ∧ (parseMethodDescriptor jy_M_tonight.desc).map (fun d => d.parameters.length) = some 3 := by decide +kernel
theorem jh_M_gives : jy_M_gives.cls = "PleasureGardenModel" ∧ jy_M_gives.cls ≠ "java/lang/invoke/MethodHandle" ∧ jy_M_gives.cls ≠ "java/lang/invoke/VarHandle" ∧ (parseMethodDescriptor jy_M_gives.desc).map (fun d => d.parameters.length) = some 3 := by decide +kernel
theorem jh_M_close : jy_M_close.cls = "PleasureGardenModel" ∧ jy_M_close.cls ≠ "java/lang/invoke/MethodHandle" ∧ jy_M_close.cls ≠ "java/lang/invoke/VarHandle" ∧ (parseMethodDescriptor jy_M_close.desc).map (fun d => d.parameters.length) = some 0 := by decide +kernel
theorem jh_M_night : jy_M_night.cls = "PleasureGardenModel" ∧ jy_M_night.cls ≠ "java/lang/invoke/MethodHandle" ∧ jy_M_night.cls ≠ "java/lang/invoke/VarHandle" ∧ (parseMethodDescriptor jy_M_night.desc).map (fun d => d.parameters.length) = some 2 := by decide +kernel
theorem jh_M_off : jy_M_off.cls = "PleasureGardenModel" ∧ jy_M_off.cls ≠ "java/lang/invoke/MethodHandle" ∧ jy_M_off.cls ≠ "java/lang/invoke/VarHandle" ∧ (parseMethodDescriptor jy_M_off.desc).map (fun d => d.parameters.length) = some 2 := by decide +kernel
theorem jh_M_foretold : jy_M_foretold.cls = "PleasureGardenModel" ∧ jy_M_foretold.cls ≠ "java/lang/invoke/MethodHandle" ∧ jy_M_foretold.cls ≠ "java/lang/invoke/VarHandle" ∧ (parseMethodDescriptor jy_M_foretold.desc).map (fun d => d.parameters.length) = some 1 := by decide +kernel
theorem jh_M_stolen : jy_M_stolen.cls = "PleasureGardenModel" ∧ jy_M_stolen.cls ≠ "java/lang/invoke/MethodHandle" ∧ jy_M_stolen.cls ≠ "java/lang/invoke/VarHandle" ∧ (parseMethodDescriptor jy_M_stolen.desc).map (fun d => d.parameters.length) = some 2 := by decide +kernel
theorem jh_M_isNear : jy_M_isNear.cls = "PleasureGardenModel" ∧ jy_M_isNear.cls ≠ "java/lang/invoke/MethodHandle" ∧ jy_M_isNear.cls ≠ "java/lang/invoke/VarHandle" ∧ (parseMethodDescriptor jy_M_isNear.desc).map (fun d => d.parameters.length) = some 2 := by decide +kernel
theorem jh_M_near : jy_M_near.cls = "PleasureGardenModel" ∧ jy_M_near.cls ≠ "java/lang/invoke/MethodHandle" ∧ jy_M_near.cls ≠ "java/lang/invoke/VarHandle" ∧ (parseMethodDescriptor jy_M_near.desc).map (fun d => d.parameters.length) = some 1 := by decide +kernel
theorem jh_M_doubt : jy_M_doubt.cls = "PleasureGardenModel" ∧ jy_M_doubt.cls ≠ "java/lang/invoke/MethodHandle" ∧ jy_M_doubt.cls ≠ "java/lang/invoke/VarHandle" ∧ (parseMethodDescriptor jy_M_doubt.desc).map (fun d => d.parameters.length) = some 1 := by decide +kernel
theorem jh_M_count : jy_M_count.cls = "PleasureGardenModel" ∧ jy_M_count.cls ≠ "java/lang/invoke/MethodHandle" ∧ jy_M_count.cls ≠ "java/lang/invoke/VarHandle" ∧ (parseMethodDescriptor jy_M_count.desc).map (fun d => d.parameters.length) = some 1 := by decide +kernel
theorem jh_Ma_floorDiv : jy_Ma_floorDiv.cls = "java/lang/Math" ∧ jy_Ma_floorDiv.cls ≠ "java/lang/invoke/MethodHandle" ∧ jy_Ma_floorDiv.cls ≠ "java/lang/invoke/VarHandle" ∧ (parseMethodDescriptor jy_Ma_floorDiv.desc).map (fun d => d.parameters.length) = some 2 := by decide +kernel
theorem jh_St_coder : jy_St_coder.cls = "java/lang/String" ∧ jy_St_coder.cls ≠ "java/lang/invoke/MethodHandle" ∧ jy_St_coder.cls ≠ "java/lang/invoke/VarHandle" ∧ (parseMethodDescriptor jy_St_coder.desc).map (fun d => d.parameters.length) = some 0 := by decide +kernel
theorem jh_St_isLatin1 : jy_St_isLatin1.cls = "java/lang/String" ∧ jy_St_isLatin1.cls ≠ "java/lang/invoke/MethodHandle" ∧ jy_St_isLatin1.cls ≠ "java/lang/invoke/VarHandle" ∧ (parseMethodDescriptor jy_St_isLatin1.desc).map (fun d => d.parameters.length) = some 0 := by decide +kernel
theorem jh_St_length : jy_St_length.cls = "java/lang/String" ∧ jy_St_length.cls ≠ "java/lang/invoke/MethodHandle" ∧ jy_St_length.cls ≠ "java/lang/invoke/VarHandle" ∧ (parseMethodDescriptor jy_St_length.desc).map (fun d => d.parameters.length) = some 0 := by decide +kernel
theorem jh_Sl_canEncode : jy_Sl_canEncode.cls = "java/lang/StringLatin1" ∧ jy_Sl_canEncode.cls ≠ "java/lang/invoke/MethodHandle" ∧ jy_Sl_canEncode.cls ≠ "java/lang/invoke/VarHandle" ∧ (parseMethodDescriptor jy_Sl_canEncode.desc).map (fun d => d.parameters.length) = some 1 := by decide +kernel
theorem jh_Sl_indexOfChar : jy_Sl_indexOfChar.cls = "java/lang/StringLatin1" ∧ jy_Sl_indexOfChar.cls ≠ "java/lang/invoke/MethodHandle" ∧ jy_Sl_indexOfChar.cls ≠ "java/lang/invoke/VarHandle" ∧ (parseMethodDescriptor jy_Sl_indexOfChar.desc).map (fun d => d.parameters.length) = some 4 := by decide +kernel
theorem jh_Sl_indexOf : jy_Sl_indexOf.cls = "java/lang/StringLatin1" ∧ jy_Sl_indexOf.cls ≠ "java/lang/invoke/MethodHandle" ∧ jy_Sl_indexOf.cls ≠ "java/lang/invoke/VarHandle" ∧ (parseMethodDescriptor jy_Sl_indexOf.desc).map (fun d => d.parameters.length) = some 4 := by decide +kernel
theorem jh_St_indexOf2 : jy_St_indexOf2.cls = "java/lang/String" ∧ jy_St_indexOf2.cls ≠ "java/lang/invoke/MethodHandle" ∧ jy_St_indexOf2.cls ≠ "java/lang/invoke/VarHandle" ∧ (parseMethodDescriptor jy_St_indexOf2.desc).map (fun d => d.parameters.length) = some 2 := by decide +kernel
theorem jh_St_indexOf1 : jy_St_indexOf1.cls = "java/lang/String" ∧ jy_St_indexOf1.cls ≠ "java/lang/invoke/MethodHandle" ∧ jy_St_indexOf1.cls ≠ "java/lang/invoke/VarHandle" ∧ (parseMethodDescriptor jy_St_indexOf1.desc).map (fun d => d.parameters.length) = some 1 := by decide +kernel
theorem jf_G_10 : j_F "PleasureGarden" "PleasureGarden" jT_G 15 0 10 0 := ⟨ji_G, rfl, by decide, rfl, jlf_G_10⟩
theorem jf_G_19 : j_F "PleasureGarden" "PleasureGarden" jT_G 15 0 19 1 := ⟨ji_G, rfl, by decide, rfl, jlf_G_19⟩
theorem jf_G_23 : j_F "PleasureGarden" "PleasureGarden" jT_G 15 0 23 2 := ⟨ji_G, rfl, by decide, rfl, jlf_G_23⟩
theorem jf_G_30 : j_F "PleasureGarden" "PleasureGarden" jT_G 15 0 30 3 := ⟨ji_G, rfl, by decide, rfl, jlf_G_30⟩
theorem jf_G_37 : j_F "PleasureGarden" "PleasureGarden" jT_G 15 0 37 4 := ⟨ji_G, rfl, by decide, rfl, jlf_G_37⟩
theorem jf_G_44 : j_F "PleasureGarden" "PleasureGarden" jT_G 15 0 44 5 := ⟨ji_G, rfl, by decide, rfl, jlf_G_44⟩
theorem jf_G_51 : j_F "PleasureGarden" "PleasureGarden" jT_G 15 0 51 6 := ⟨ji_G, rfl, by decide, rfl, jlf_G_51⟩
theorem jf_G_58 : j_F "PleasureGarden" "PleasureGarden" jT_G 15 0 58 7 := ⟨ji_G, rfl, by decide, rfl, jlf_G_58⟩
theorem jf_G_65 : j_F "PleasureGarden" "PleasureGarden" jT_G 15 0 65 8 := ⟨ji_G, rfl, by decide, rfl, jlf_G_65⟩
theorem jf_G_72 : j_F "PleasureGarden" "PleasureGarden" jT_G 15 0 72 9 := ⟨ji_G, rfl, by decide, rfl, jlf_G_72⟩
theorem jf_G_76 : j_F "PleasureGarden" "PleasureGarden" jT_G 15 0 76 10 := ⟨ji_G, rfl, by decide, rfl, jlf_G_76⟩
theorem jf_G_80 : j_F "PleasureGarden" "PleasureGarden" jT_G 15 0 80 11 := ⟨ji_G, rfl, by decide, rfl, jlf_G_80⟩
theorem jf_G_83 : j_F "PleasureGarden" "PleasureGarden" jT_G 15 0 83 12 := ⟨ji_G, rfl, by decide, rfl, jlf_G_83⟩
theorem jf_G_86 : j_F "PleasureGarden" "PleasureGarden" jT_G 15 0 86 13 := ⟨ji_G, rfl, by decide, rfl, jlf_G_86⟩
theorem jf_G_89 : j_F "PleasureGarden" "PleasureGarden" jT_G 15 0 89 14 := ⟨ji_G, rfl, by decide, rfl, jlf_G_89⟩
theorem jf_G_96 : j_F "PleasureGarden" "PleasureGarden$Grounds" jT_Gr 5 1 96 0 := ⟨ji_Gr, rfl, by decide, rfl, jlf_G_96⟩
theorem jf_G_116 : j_F "PleasureGarden" "PleasureGarden$Sky" jT_Sk 2 2 116 0 := ⟨ji_Sk, rfl, by decide, rfl, jlf_G_116⟩
theorem jf_G_124 : j_F "PleasureGarden" "PleasureGarden$Guests" jT_Gu 2 3 124 0 := ⟨ji_Gu, rfl, by decide, rfl, jlf_G_124⟩
theorem jf_G_139 : j_F "PleasureGarden" "PleasureGarden$Party" jT_Pa 12 4 139 7 := ⟨ji_Pa, rfl, by decide, rfl, jlf_G_139⟩
theorem jf_G_144 : j_F "PleasureGarden" "PleasureGarden$Party" jT_Pa 12 4 144 0 := ⟨ji_Pa, rfl, by decide, rfl, jlf_G_144⟩
theorem jf_G_148 : j_F "PleasureGarden" "PleasureGarden$Guests" jT_Gu 2 3 148 1 := ⟨ji_Gu, rfl, by decide, rfl, jlf_G_148⟩
theorem jf_G_152 : j_F "PleasureGarden" "PleasureGarden$Party" jT_Pa 12 4 152 3 := ⟨ji_Pa, rfl, by decide, rfl, jlf_G_152⟩
theorem jf_G_155 : j_F "PleasureGarden" "PleasureGarden$Party" jT_Pa 12 4 155 4 := ⟨ji_Pa, rfl, by decide, rfl, jlf_G_155⟩
theorem jf_G_176 : j_F "PleasureGarden" "PleasureGarden$Watch" jT_Wa 9 5 176 0 := ⟨ji_Wa, rfl, by decide, rfl, jlf_G_176⟩
theorem jf_G_192 : j_F "PleasureGarden" "PleasureGarden$Lamps" jT_La 6 6 192 0 := ⟨ji_La, rfl, by decide, rfl, jlf_G_192⟩
theorem jf_G_197 : j_F "PleasureGarden" "PleasureGarden$Lamps" jT_La 6 6 197 1 := ⟨ji_La, rfl, by decide, rfl, jlf_G_197⟩
theorem jf_G_209 : j_F "PleasureGarden" "PleasureGarden$Lamps" jT_La 6 6 209 4 := ⟨ji_La, rfl, by decide, rfl, jlf_G_209⟩
theorem jf_G_222 : j_F "PleasureGarden" "PleasureGarden$Boxes" jT_Bo 4 7 222 0 := ⟨ji_Bo, rfl, by decide, rfl, jlf_G_222⟩
theorem jf_G_225 : j_F "PleasureGarden" "PleasureGarden$Boxes" jT_Bo 4 7 225 1 := ⟨ji_Bo, rfl, by decide, rfl, jlf_G_225⟩
theorem jf_G_227 : j_F "PleasureGarden" "PleasureGarden$Party" jT_Pa 12 4 227 6 := ⟨ji_Pa, rfl, by decide, rfl, jlf_G_227⟩
theorem jf_G_230 : j_F "PleasureGarden" "PleasureGarden$Party" jT_Pa 12 4 230 1 := ⟨ji_Pa, rfl, by decide, rfl, jlf_G_230⟩
theorem jf_G_233 : j_F "PleasureGarden" "PleasureGarden$Boxes" jT_Bo 4 7 233 2 := ⟨ji_Bo, rfl, by decide, rfl, jlf_G_233⟩
theorem jf_G_236 : j_F "PleasureGarden" "PleasureGarden$Boxes" jT_Bo 4 7 236 3 := ⟨ji_Bo, rfl, by decide, rfl, jlf_G_236⟩
theorem jf_G_243 : j_F "PleasureGarden" "PleasureGarden$Kitchen" jT_Ki 8 8 243 0 := ⟨ji_Ki, rfl, by decide, rfl, jlf_G_243⟩
theorem jf_G_247 : j_F "PleasureGarden" "PleasureGarden$Kitchen" jT_Ki 8 8 247 1 := ⟨ji_Ki, rfl, by decide, rfl, jlf_G_247⟩
theorem jf_G_250 : j_F "PleasureGarden" "PleasureGarden$Kitchen" jT_Ki 8 8 250 2 := ⟨ji_Ki, rfl, by decide, rfl, jlf_G_250⟩
theorem jf_G_253 : j_F "PleasureGarden" "PleasureGarden$Kitchen" jT_Ki 8 8 253 4 := ⟨ji_Ki, rfl, by decide, rfl, jlf_G_253⟩
theorem jf_G_260 : j_F "PleasureGarden" "PleasureGarden$Prices" jT_Pr 8 9 260 1 := ⟨ji_Pr, rfl, by decide, rfl, jlf_G_260⟩
theorem jf_G_266 : j_F "PleasureGarden" "PleasureGarden$Prices" jT_Pr 8 9 266 0 := ⟨ji_Pr, rfl, by decide, rfl, jlf_G_266⟩
theorem jf_G_289 : j_F "PleasureGarden" "PleasureGarden$Ledger" jT_Le 4 11 289 0 := ⟨ji_Le, rfl, by decide, rfl, jlf_G_289⟩
theorem jf_G_290 : j_F "PleasureGarden" "PleasureGarden$Ledger" jT_Le 4 11 290 1 := ⟨ji_Le, rfl, by decide, rfl, jlf_G_290⟩
theorem jf_G_292 : j_F "PleasureGarden" "PleasureGarden$Ledger" jT_Le 4 11 292 2 := ⟨ji_Le, rfl, by decide, rfl, jlf_G_292⟩
theorem jf_G_295 : j_F "PleasureGarden" "PleasureGarden$Ledger" jT_Le 4 11 295 3 := ⟨ji_Le, rfl, by decide, rfl, jlf_G_295⟩
theorem jf_G_300 : j_F "PleasureGarden" "PleasureGarden$Watch" jT_Wa 9 5 300 6 := ⟨ji_Wa, rfl, by decide, rfl, jlf_G_300⟩
theorem jf_G_314 : j_F "PleasureGarden" "PleasureGarden$Kitchen" jT_Ki 8 8 314 3 := ⟨ji_Ki, rfl, by decide, rfl, jlf_G_314⟩
theorem jf_G_317 : j_F "PleasureGarden" "PleasureGarden$Party" jT_Pa 12 4 317 5 := ⟨ji_Pa, rfl, by decide, rfl, jlf_G_317⟩
theorem jf_G_323 : j_F "PleasureGarden" "PleasureGarden$Party" jT_Pa 12 4 323 11 := ⟨ji_Pa, rfl, by decide, rfl, jlf_G_323⟩
theorem jf_G_330 : j_F "PleasureGarden" "PleasureGarden$Party" jT_Pa 12 4 330 8 := ⟨ji_Pa, rfl, by decide, rfl, jlf_G_330⟩
theorem jf_G_347 : j_F "PleasureGarden" "PleasureGarden$Kitchen" jT_Ki 8 8 347 5 := ⟨ji_Ki, rfl, by decide, rfl, jlf_G_347⟩
theorem jf_G_350 : j_F "PleasureGarden" "PleasureGarden$Kitchen" jT_Ki 8 8 350 6 := ⟨ji_Ki, rfl, by decide, rfl, jlf_G_350⟩
theorem jf_G_356 : j_F "PleasureGarden" "PleasureGarden$Party" jT_Pa 12 4 356 9 := ⟨ji_Pa, rfl, by decide, rfl, jlf_G_356⟩
theorem jf_G_358 : j_F "PleasureGarden" "PleasureGarden$Grounds" jT_Gr 5 1 358 1 := ⟨ji_Gr, rfl, by decide, rfl, jlf_G_358⟩
theorem jf_G_364 : j_F "PleasureGarden" "PleasureGarden$Prices" jT_Pr 8 9 364 7 := ⟨ji_Pr, rfl, by decide, rfl, jlf_G_364⟩
theorem jf_G_368 : j_F "PleasureGarden" "PleasureGarden$Reader" jT_Re 6 10 368 0 := ⟨ji_Re, rfl, by decide, rfl, jlf_G_368⟩
theorem jf_G_373 : j_F "PleasureGarden" "PleasureGarden$Party" jT_Pa 12 4 373 10 := ⟨ji_Pa, rfl, by decide, rfl, jlf_G_373⟩
theorem jf_Gr_9 : j_F "PleasureGarden$Grounds" "PleasureGarden$Grounds" jT_Gr 5 1 9 0 := ⟨ji_Gr, rfl, by decide, rfl, jlf_Gr_9⟩
theorem jf_Gr_15 : j_F "PleasureGarden$Grounds" "PleasureGarden$Grounds" jT_Gr 5 1 15 1 := ⟨ji_Gr, rfl, by decide, rfl, jlf_Gr_15⟩
theorem jf_Gr_19 : j_F "PleasureGarden$Grounds" "PleasureGarden$Grounds" jT_Gr 5 1 19 2 := ⟨ji_Gr, rfl, by decide, rfl, jlf_Gr_19⟩
theorem jf_Gr_25 : j_F "PleasureGarden$Grounds" "PleasureGarden$Grounds" jT_Gr 5 1 25 3 := ⟨ji_Gr, rfl, by decide, rfl, jlf_Gr_25⟩
theorem jf_Gr_28 : j_F "PleasureGarden$Grounds" "PleasureGarden$Grounds" jT_Gr 5 1 28 4 := ⟨ji_Gr, rfl, by decide, rfl, jlf_Gr_28⟩
theorem jf_Sk_9 : j_F "PleasureGarden$Sky" "PleasureGarden$Sky" jT_Sk 2 2 9 0 := ⟨ji_Sk, rfl, by decide, rfl, jlf_Sk_9⟩
theorem jf_Sk_15 : j_F "PleasureGarden$Sky" "PleasureGarden$Sky" jT_Sk 2 2 15 1 := ⟨ji_Sk, rfl, by decide, rfl, jlf_Sk_15⟩
theorem jf_Gu_7 : j_F "PleasureGarden$Guests" "PleasureGarden$Guests" jT_Gu 2 3 7 0 := ⟨ji_Gu, rfl, by decide, rfl, jlf_Gu_7⟩
theorem jf_Gu_15 : j_F "PleasureGarden$Guests" "PleasureGarden$Guests" jT_Gu 2 3 15 1 := ⟨ji_Gu, rfl, by decide, rfl, jlf_Gu_15⟩
theorem jf_Gu_30 : j_F "PleasureGarden$Guests" "PleasureGarden$Party" jT_Pa 12 4 30 2 := ⟨ji_Pa, rfl, by decide, rfl, jlf_Gu_30⟩
theorem jf_Gu_33 : j_F "PleasureGarden$Guests" "PleasureGarden$Party" jT_Pa 12 4 33 3 := ⟨ji_Pa, rfl, by decide, rfl, jlf_Gu_33⟩
theorem jf_Gu_36 : j_F "PleasureGarden$Guests" "PleasureGarden$Party" jT_Pa 12 4 36 4 := ⟨ji_Pa, rfl, by decide, rfl, jlf_Gu_36⟩
theorem jf_Gu_39 : j_F "PleasureGarden$Guests" "PleasureGarden$Party" jT_Pa 12 4 39 1 := ⟨ji_Pa, rfl, by decide, rfl, jlf_Gu_39⟩
theorem jf_Pa_9 : j_F "PleasureGarden$Party" "PleasureGarden$Party" jT_Pa 12 4 9 1 := ⟨ji_Pa, rfl, by decide, rfl, jlf_Pa_9⟩
theorem jf_Pa_15 : j_F "PleasureGarden$Party" "PleasureGarden$Party" jT_Pa 12 4 15 2 := ⟨ji_Pa, rfl, by decide, rfl, jlf_Pa_15⟩
theorem jf_Pa_18 : j_F "PleasureGarden$Party" "PleasureGarden$Party" jT_Pa 12 4 18 3 := ⟨ji_Pa, rfl, by decide, rfl, jlf_Pa_18⟩
theorem jf_Pa_21 : j_F "PleasureGarden$Party" "PleasureGarden$Party" jT_Pa 12 4 21 4 := ⟨ji_Pa, rfl, by decide, rfl, jlf_Pa_21⟩
theorem jf_Pa_24 : j_F "PleasureGarden$Party" "PleasureGarden$Party" jT_Pa 12 4 24 5 := ⟨ji_Pa, rfl, by decide, rfl, jlf_Pa_24⟩
theorem jf_Pa_29 : j_F "PleasureGarden$Party" "PleasureGarden$Party" jT_Pa 12 4 29 6 := ⟨ji_Pa, rfl, by decide, rfl, jlf_Pa_29⟩
theorem jf_Pa_32 : j_F "PleasureGarden$Party" "PleasureGarden$Party" jT_Pa 12 4 32 7 := ⟨ji_Pa, rfl, by decide, rfl, jlf_Pa_32⟩
theorem jf_Pa_35 : j_F "PleasureGarden$Party" "PleasureGarden$Party" jT_Pa 12 4 35 8 := ⟨ji_Pa, rfl, by decide, rfl, jlf_Pa_35⟩
theorem jf_Pa_38 : j_F "PleasureGarden$Party" "PleasureGarden$Party" jT_Pa 12 4 38 9 := ⟨ji_Pa, rfl, by decide, rfl, jlf_Pa_38⟩
theorem jf_Pa_41 : j_F "PleasureGarden$Party" "PleasureGarden$Party" jT_Pa 12 4 41 10 := ⟨ji_Pa, rfl, by decide, rfl, jlf_Pa_41⟩
theorem jf_Pa_46 : j_F "PleasureGarden$Party" "PleasureGarden$Party" jT_Pa 12 4 46 11 := ⟨ji_Pa, rfl, by decide, rfl, jlf_Pa_46⟩
theorem jf_Pa_49 : j_F "PleasureGarden$Party" "PleasureGarden$Party" jT_Pa 12 4 49 0 := ⟨ji_Pa, rfl, by decide, rfl, jlf_Pa_49⟩
theorem jf_Wa_9 : j_F "PleasureGarden$Watch" "PleasureGarden$Watch" jT_Wa 9 5 9 0 := ⟨ji_Wa, rfl, by decide, rfl, jlf_Wa_9⟩
theorem jf_Wa_15 : j_F "PleasureGarden$Watch" "PleasureGarden$Watch" jT_Wa 9 5 15 1 := ⟨ji_Wa, rfl, by decide, rfl, jlf_Wa_15⟩
theorem jf_Wa_18 : j_F "PleasureGarden$Watch" "PleasureGarden$Watch" jT_Wa 9 5 18 2 := ⟨ji_Wa, rfl, by decide, rfl, jlf_Wa_18⟩
theorem jf_Wa_22 : j_F "PleasureGarden$Watch" "PleasureGarden$Watch" jT_Wa 9 5 22 3 := ⟨ji_Wa, rfl, by decide, rfl, jlf_Wa_22⟩
theorem jf_Wa_25 : j_F "PleasureGarden$Watch" "PleasureGarden$Watch" jT_Wa 9 5 25 4 := ⟨ji_Wa, rfl, by decide, rfl, jlf_Wa_25⟩
theorem jf_Wa_28 : j_F "PleasureGarden$Watch" "PleasureGarden$Watch" jT_Wa 9 5 28 5 := ⟨ji_Wa, rfl, by decide, rfl, jlf_Wa_28⟩
theorem jf_Wa_31 : j_F "PleasureGarden$Watch" "PleasureGarden$Watch" jT_Wa 9 5 31 6 := ⟨ji_Wa, rfl, by decide, rfl, jlf_Wa_31⟩
theorem jf_Wa_34 : j_F "PleasureGarden$Watch" "PleasureGarden$Watch" jT_Wa 9 5 34 7 := ⟨ji_Wa, rfl, by decide, rfl, jlf_Wa_34⟩
theorem jf_Wa_37 : j_F "PleasureGarden$Watch" "PleasureGarden$Watch" jT_Wa 9 5 37 8 := ⟨ji_Wa, rfl, by decide, rfl, jlf_Wa_37⟩
theorem jf_La_7 : j_F "PleasureGarden$Lamps" "PleasureGarden$Lamps" jT_La 6 6 7 0 := ⟨ji_La, rfl, by decide, rfl, jlf_La_7⟩
theorem jf_La_13 : j_F "PleasureGarden$Lamps" "PleasureGarden$Lamps" jT_La 6 6 13 1 := ⟨ji_La, rfl, by decide, rfl, jlf_La_13⟩
theorem jf_La_16 : j_F "PleasureGarden$Lamps" "PleasureGarden$Lamps" jT_La 6 6 16 2 := ⟨ji_La, rfl, by decide, rfl, jlf_La_16⟩
theorem jf_La_19 : j_F "PleasureGarden$Lamps" "PleasureGarden$Lamps" jT_La 6 6 19 3 := ⟨ji_La, rfl, by decide, rfl, jlf_La_19⟩
theorem jf_La_23 : j_F "PleasureGarden$Lamps" "PleasureGarden$Lamps" jT_La 6 6 23 4 := ⟨ji_La, rfl, by decide, rfl, jlf_La_23⟩
theorem jf_La_28 : j_F "PleasureGarden$Lamps" "PleasureGarden$Lamps" jT_La 6 6 28 5 := ⟨ji_La, rfl, by decide, rfl, jlf_La_28⟩
theorem jf_Bo_7 : j_F "PleasureGarden$Boxes" "PleasureGarden$Boxes" jT_Bo 4 7 7 0 := ⟨ji_Bo, rfl, by decide, rfl, jlf_Bo_7⟩
theorem jf_Bo_13 : j_F "PleasureGarden$Boxes" "PleasureGarden$Boxes" jT_Bo 4 7 13 1 := ⟨ji_Bo, rfl, by decide, rfl, jlf_Bo_13⟩
theorem jf_Bo_17 : j_F "PleasureGarden$Boxes" "PleasureGarden$Boxes" jT_Bo 4 7 17 2 := ⟨ji_Bo, rfl, by decide, rfl, jlf_Bo_17⟩
theorem jf_Bo_20 : j_F "PleasureGarden$Boxes" "PleasureGarden$Boxes" jT_Bo 4 7 20 3 := ⟨ji_Bo, rfl, by decide, rfl, jlf_Bo_20⟩
theorem jf_Ki_7 : j_F "PleasureGarden$Kitchen" "PleasureGarden$Kitchen" jT_Ki 8 8 7 0 := ⟨ji_Ki, rfl, by decide, rfl, jlf_Ki_7⟩
theorem jf_Ki_13 : j_F "PleasureGarden$Kitchen" "PleasureGarden$Kitchen" jT_Ki 8 8 13 1 := ⟨ji_Ki, rfl, by decide, rfl, jlf_Ki_13⟩
theorem jf_Ki_16 : j_F "PleasureGarden$Kitchen" "PleasureGarden$Kitchen" jT_Ki 8 8 16 2 := ⟨ji_Ki, rfl, by decide, rfl, jlf_Ki_16⟩
theorem jf_Ki_19 : j_F "PleasureGarden$Kitchen" "PleasureGarden$Kitchen" jT_Ki 8 8 19 3 := ⟨ji_Ki, rfl, by decide, rfl, jlf_Ki_19⟩
theorem jf_Ki_22 : j_F "PleasureGarden$Kitchen" "PleasureGarden$Kitchen" jT_Ki 8 8 22 4 := ⟨ji_Ki, rfl, by decide, rfl, jlf_Ki_22⟩
theorem jf_Ki_25 : j_F "PleasureGarden$Kitchen" "PleasureGarden$Kitchen" jT_Ki 8 8 25 5 := ⟨ji_Ki, rfl, by decide, rfl, jlf_Ki_25⟩
theorem jf_Ki_29 : j_F "PleasureGarden$Kitchen" "PleasureGarden$Kitchen" jT_Ki 8 8 29 6 := ⟨ji_Ki, rfl, by decide, rfl, jlf_Ki_29⟩
theorem jf_Ki_32 : j_F "PleasureGarden$Kitchen" "PleasureGarden$Kitchen" jT_Ki 8 8 32 7 := ⟨ji_Ki, rfl, by decide, rfl, jlf_Ki_32⟩
theorem jf_Pr_7 : j_F "PleasureGarden$Prices" "PleasureGarden$Prices" jT_Pr 8 9 7 0 := ⟨ji_Pr, rfl, by decide, rfl, jlf_Pr_7⟩
theorem jf_Pr_13 : j_F "PleasureGarden$Prices" "PleasureGarden$Prices" jT_Pr 8 9 13 1 := ⟨ji_Pr, rfl, by decide, rfl, jlf_Pr_13⟩
theorem jf_Pr_16 : j_F "PleasureGarden$Prices" "PleasureGarden$Prices" jT_Pr 8 9 16 2 := ⟨ji_Pr, rfl, by decide, rfl, jlf_Pr_16⟩
theorem jf_Pr_20 : j_F "PleasureGarden$Prices" "PleasureGarden$Prices" jT_Pr 8 9 20 3 := ⟨ji_Pr, rfl, by decide, rfl, jlf_Pr_20⟩
theorem jf_Pr_24 : j_F "PleasureGarden$Prices" "PleasureGarden$Prices" jT_Pr 8 9 24 4 := ⟨ji_Pr, rfl, by decide, rfl, jlf_Pr_24⟩
theorem jf_Pr_27 : j_F "PleasureGarden$Prices" "PleasureGarden$Prices" jT_Pr 8 9 27 5 := ⟨ji_Pr, rfl, by decide, rfl, jlf_Pr_27⟩
theorem jf_Pr_30 : j_F "PleasureGarden$Prices" "PleasureGarden$Prices" jT_Pr 8 9 30 6 := ⟨ji_Pr, rfl, by decide, rfl, jlf_Pr_30⟩
theorem jf_Pr_36 : j_F "PleasureGarden$Prices" "PleasureGarden$Prices" jT_Pr 8 9 36 7 := ⟨ji_Pr, rfl, by decide, rfl, jlf_Pr_36⟩
theorem jf_Pr_44 : j_F "PleasureGarden$Prices" "PleasureGarden$Reader" jT_Re 6 10 44 1 := ⟨ji_Re, rfl, by decide, rfl, jlf_Pr_44⟩
theorem jf_Re_7 : j_F "PleasureGarden$Reader" "PleasureGarden$Reader" jT_Re 6 10 7 0 := ⟨ji_Re, rfl, by decide, rfl, jlf_Re_7⟩
theorem jf_Re_13 : j_F "PleasureGarden$Reader" "PleasureGarden$Reader" jT_Re 6 10 13 1 := ⟨ji_Re, rfl, by decide, rfl, jlf_Re_13⟩
theorem jf_Re_17 : j_F "PleasureGarden$Reader" "PleasureGarden$Reader" jT_Re 6 10 17 2 := ⟨ji_Re, rfl, by decide, rfl, jlf_Re_17⟩
theorem jf_Re_21 : j_F "PleasureGarden$Reader" "PleasureGarden$Reader" jT_Re 6 10 21 3 := ⟨ji_Re, rfl, by decide, rfl, jlf_Re_21⟩
theorem jf_Re_24 : j_F "PleasureGarden$Reader" "PleasureGarden$Reader" jT_Re 6 10 24 4 := ⟨ji_Re, rfl, by decide, rfl, jlf_Re_24⟩
theorem jf_Re_27 : j_F "PleasureGarden$Reader" "PleasureGarden$Reader" jT_Re 6 10 27 5 := ⟨ji_Re, rfl, by decide, rfl, jlf_Re_27⟩
theorem jf_Le_9 : j_F "PleasureGarden$Ledger" "PleasureGarden$Ledger" jT_Le 4 11 9 0 := ⟨ji_Le, rfl, by decide, rfl, jlf_Le_9⟩
theorem jf_Le_15 : j_F "PleasureGarden$Ledger" "PleasureGarden$Ledger" jT_Le 4 11 15 1 := ⟨ji_Le, rfl, by decide, rfl, jlf_Le_15⟩
theorem jf_Le_19 : j_F "PleasureGarden$Ledger" "PleasureGarden$Ledger" jT_Le 4 11 19 2 := ⟨ji_Le, rfl, by decide, rfl, jlf_Le_19⟩
theorem jf_Le_22 : j_F "PleasureGarden$Ledger" "PleasureGarden$Ledger" jT_Le 4 11 22 3 := ⟨ji_Le, rfl, by decide, rfl, jlf_Le_22⟩
theorem jf_M_7 : j_F "PleasureGardenModel" "PleasureGardenModel" jT_M 71 12 7 4 := ⟨ji_M, rfl, by decide, rfl, jlf_M_7⟩
theorem jf_M_13 : j_F "PleasureGardenModel" "PleasureGardenModel" jT_M 71 12 13 5 := ⟨ji_M, rfl, by decide, rfl, jlf_M_13⟩
theorem jf_M_17 : j_F "PleasureGardenModel" "PleasureGardenModel" jT_M 71 12 17 6 := ⟨ji_M, rfl, by decide, rfl, jlf_M_17⟩
theorem jf_M_20 : j_F "PleasureGardenModel" "PleasureGardenModel" jT_M 71 12 20 8 := ⟨ji_M, rfl, by decide, rfl, jlf_M_20⟩
theorem jf_M_23 : j_F "PleasureGardenModel" "PleasureGardenModel" jT_M 71 12 23 9 := ⟨ji_M, rfl, by decide, rfl, jlf_M_23⟩
theorem jf_M_26 : j_F "PleasureGardenModel" "PleasureGardenModel" jT_M 71 12 26 10 := ⟨ji_M, rfl, by decide, rfl, jlf_M_26⟩
theorem jf_M_29 : j_F "PleasureGardenModel" "PleasureGardenModel" jT_M 71 12 29 11 := ⟨ji_M, rfl, by decide, rfl, jlf_M_29⟩
theorem jf_M_32 : j_F "PleasureGardenModel" "PleasureGardenModel" jT_M 71 12 32 13 := ⟨ji_M, rfl, by decide, rfl, jlf_M_32⟩
theorem jf_M_35 : j_F "PleasureGardenModel" "PleasureGardenModel" jT_M 71 12 35 14 := ⟨ji_M, rfl, by decide, rfl, jlf_M_35⟩
theorem jf_M_38 : j_F "PleasureGardenModel" "PleasureGardenModel" jT_M 71 12 38 15 := ⟨ji_M, rfl, by decide, rfl, jlf_M_38⟩
theorem jf_M_41 : j_F "PleasureGardenModel" "PleasureGardenModel" jT_M 71 12 41 16 := ⟨ji_M, rfl, by decide, rfl, jlf_M_41⟩
theorem jf_M_44 : j_F "PleasureGardenModel" "PleasureGardenModel" jT_M 71 12 44 17 := ⟨ji_M, rfl, by decide, rfl, jlf_M_44⟩
theorem jf_M_47 : j_F "PleasureGardenModel" "PleasureGardenModel" jT_M 71 12 47 18 := ⟨ji_M, rfl, by decide, rfl, jlf_M_47⟩
theorem jf_M_50 : j_F "PleasureGardenModel" "PleasureGardenModel" jT_M 71 12 50 19 := ⟨ji_M, rfl, by decide, rfl, jlf_M_50⟩
theorem jf_M_53 : j_F "PleasureGardenModel" "PleasureGardenModel" jT_M 71 12 53 20 := ⟨ji_M, rfl, by decide, rfl, jlf_M_53⟩
theorem jf_M_56 : j_F "PleasureGardenModel" "PleasureGardenModel" jT_M 71 12 56 21 := ⟨ji_M, rfl, by decide, rfl, jlf_M_56⟩
theorem jf_M_59 : j_F "PleasureGardenModel" "PleasureGardenModel" jT_M 71 12 59 22 := ⟨ji_M, rfl, by decide, rfl, jlf_M_59⟩
theorem jf_M_63 : j_F "PleasureGardenModel" "PleasureGardenModel" jT_M 71 12 63 23 := ⟨ji_M, rfl, by decide, rfl, jlf_M_63⟩
theorem jf_M_67 : j_F "PleasureGardenModel" "PleasureGardenModel" jT_M 71 12 67 29 := ⟨ji_M, rfl, by decide, rfl, jlf_M_67⟩
theorem jf_M_70 : j_F "PleasureGardenModel" "PleasureGardenModel" jT_M 71 12 70 31 := ⟨ji_M, rfl, by decide, rfl, jlf_M_70⟩
theorem jf_M_73 : j_F "PleasureGardenModel" "PleasureGardenModel" jT_M 71 12 73 32 := ⟨ji_M, rfl, by decide, rfl, jlf_M_73⟩
theorem jf_M_76 : j_F "PleasureGardenModel" "PleasureGardenModel" jT_M 71 12 76 33 := ⟨ji_M, rfl, by decide, rfl, jlf_M_76⟩
theorem jf_M_79 : j_F "PleasureGardenModel" "PleasureGardenModel" jT_M 71 12 79 34 := ⟨ji_M, rfl, by decide, rfl, jlf_M_79⟩
theorem jf_M_82 : j_F "PleasureGardenModel" "PleasureGardenModel" jT_M 71 12 82 35 := ⟨ji_M, rfl, by decide, rfl, jlf_M_82⟩
theorem jf_M_85 : j_F "PleasureGardenModel" "PleasureGardenModel" jT_M 71 12 85 41 := ⟨ji_M, rfl, by decide, rfl, jlf_M_85⟩
theorem jf_M_88 : j_F "PleasureGardenModel" "PleasureGardenModel" jT_M 71 12 88 42 := ⟨ji_M, rfl, by decide, rfl, jlf_M_88⟩
theorem jf_M_91 : j_F "PleasureGardenModel" "PleasureGardenModel" jT_M 71 12 91 44 := ⟨ji_M, rfl, by decide, rfl, jlf_M_91⟩
theorem jf_M_95 : j_F "PleasureGardenModel" "PleasureGardenModel" jT_M 71 12 95 45 := ⟨ji_M, rfl, by decide, rfl, jlf_M_95⟩
theorem jf_M_98 : j_F "PleasureGardenModel" "PleasureGardenModel" jT_M 71 12 98 47 := ⟨ji_M, rfl, by decide, rfl, jlf_M_98⟩
theorem jf_M_101 : j_F "PleasureGardenModel" "PleasureGardenModel" jT_M 71 12 101 48 := ⟨ji_M, rfl, by decide, rfl, jlf_M_101⟩
theorem jf_M_104 : j_F "PleasureGardenModel" "PleasureGardenModel" jT_M 71 12 104 49 := ⟨ji_M, rfl, by decide, rfl, jlf_M_104⟩
theorem jf_M_107 : j_F "PleasureGardenModel" "PleasureGardenModel" jT_M 71 12 107 50 := ⟨ji_M, rfl, by decide, rfl, jlf_M_107⟩
theorem jf_M_110 : j_F "PleasureGardenModel" "PleasureGardenModel" jT_M 71 12 110 53 := ⟨ji_M, rfl, by decide, rfl, jlf_M_110⟩
theorem jf_M_113 : j_F "PleasureGardenModel" "PleasureGardenModel" jT_M 71 12 113 54 := ⟨ji_M, rfl, by decide, rfl, jlf_M_113⟩
theorem jf_M_116 : j_F "PleasureGardenModel" "PleasureGardenModel" jT_M 71 12 116 55 := ⟨ji_M, rfl, by decide, rfl, jlf_M_116⟩
theorem jf_M_119 : j_F "PleasureGardenModel" "PleasureGardenModel" jT_M 71 12 119 56 := ⟨ji_M, rfl, by decide, rfl, jlf_M_119⟩
theorem jf_M_122 : j_F "PleasureGardenModel" "PleasureGardenModel" jT_M 71 12 122 57 := ⟨ji_M, rfl, by decide, rfl, jlf_M_122⟩
theorem jf_M_125 : j_F "PleasureGardenModel" "PleasureGardenModel" jT_M 71 12 125 58 := ⟨ji_M, rfl, by decide, rfl, jlf_M_125⟩
theorem jf_M_128 : j_F "PleasureGardenModel" "PleasureGardenModel" jT_M 71 12 128 59 := ⟨ji_M, rfl, by decide, rfl, jlf_M_128⟩
theorem jf_M_131 : j_F "PleasureGardenModel" "PleasureGardenModel" jT_M 71 12 131 63 := ⟨ji_M, rfl, by decide, rfl, jlf_M_131⟩
theorem jf_M_134 : j_F "PleasureGardenModel" "PleasureGardenModel" jT_M 71 12 134 64 := ⟨ji_M, rfl, by decide, rfl, jlf_M_134⟩
theorem jf_M_137 : j_F "PleasureGardenModel" "PleasureGardenModel" jT_M 71 12 137 65 := ⟨ji_M, rfl, by decide, rfl, jlf_M_137⟩
theorem jf_M_140 : j_F "PleasureGardenModel" "PleasureGardenModel" jT_M 71 12 140 66 := ⟨ji_M, rfl, by decide, rfl, jlf_M_140⟩
theorem jf_M_143 : j_F "PleasureGardenModel" "PleasureGardenModel" jT_M 71 12 143 67 := ⟨ji_M, rfl, by decide, rfl, jlf_M_143⟩
theorem jf_M_146 : j_F "PleasureGardenModel" "PleasureGardenModel" jT_M 71 12 146 69 := ⟨ji_M, rfl, by decide, rfl, jlf_M_146⟩
theorem jf_M_149 : j_F "PleasureGardenModel" "PleasureGardenModel" jT_M 71 12 149 70 := ⟨ji_M, rfl, by decide, rfl, jlf_M_149⟩
theorem jf_M_155 : j_F "PleasureGardenModel" "PleasureGardenModel" jT_M 71 12 155 3 := ⟨ji_M, rfl, by decide, rfl, jlf_M_155⟩
theorem jf_M_171 : j_F "PleasureGardenModel" "PleasureGardenModel" jT_M 71 12 171 2 := ⟨ji_M, rfl, by decide, rfl, jlf_M_171⟩
theorem jf_M_174 : j_F "PleasureGardenModel" "PleasureGardenModel" jT_M 71 12 174 7 := ⟨ji_M, rfl, by decide, rfl, jlf_M_174⟩
theorem jf_M_180 : j_F "PleasureGardenModel" "PleasureGardenModel" jT_M 71 12 180 12 := ⟨ji_M, rfl, by decide, rfl, jlf_M_180⟩
theorem jf_M_186 : j_F "PleasureGardenModel" "PleasureGardenModel" jT_M 71 12 186 24 := ⟨ji_M, rfl, by decide, rfl, jlf_M_186⟩
theorem jf_M_193 : j_F "PleasureGardenModel" "PleasureGardenModel" jT_M 71 12 193 26 := ⟨ji_M, rfl, by decide, rfl, jlf_M_193⟩
theorem jf_M_196 : j_F "PleasureGardenModel" "PleasureGardenModel" jT_M 71 12 196 46 := ⟨ji_M, rfl, by decide, rfl, jlf_M_196⟩
theorem jf_M_229 : j_F "PleasureGardenModel" "PleasureGardenModel" jT_M 71 12 229 25 := ⟨ji_M, rfl, by decide, rfl, jlf_M_229⟩
theorem jf_M_232 : j_F "PleasureGardenModel" "PleasureGardenModel" jT_M 71 12 232 28 := ⟨ji_M, rfl, by decide, rfl, jlf_M_232⟩
theorem jf_M_238 : j_F "PleasureGardenModel" "PleasureGardenModel" jT_M 71 12 238 30 := ⟨ji_M, rfl, by decide, rfl, jlf_M_238⟩
theorem jf_M_241 : j_F "PleasureGardenModel" "PleasureGardenModel" jT_M 71 12 241 38 := ⟨ji_M, rfl, by decide, rfl, jlf_M_241⟩
theorem jf_M_244 : j_F "PleasureGardenModel" "PleasureGardenModel" jT_M 71 12 244 39 := ⟨ji_M, rfl, by decide, rfl, jlf_M_244⟩
theorem jf_M_250 : j_F "PleasureGardenModel" "PleasureGardenModel" jT_M 71 12 250 36 := ⟨ji_M, rfl, by decide, rfl, jlf_M_250⟩
theorem jf_M_254 : j_F "PleasureGardenModel" "PleasureGardenModel" jT_M 71 12 254 37 := ⟨ji_M, rfl, by decide, rfl, jlf_M_254⟩
theorem jf_M_257 : j_F "PleasureGardenModel" "PleasureGardenModel" jT_M 71 12 257 40 := ⟨ji_M, rfl, by decide, rfl, jlf_M_257⟩
theorem jf_M_266 : j_F "PleasureGardenModel" "PleasureGardenModel" jT_M 71 12 266 43 := ⟨ji_M, rfl, by decide, rfl, jlf_M_266⟩
theorem jf_M_270 : j_F "PleasureGardenModel" "PleasureGardenModel" jT_M 71 12 270 27 := ⟨ji_M, rfl, by decide, rfl, jlf_M_270⟩
theorem jf_M_273 : j_F "PleasureGardenModel" "PleasureGardenModel" jT_M 71 12 273 51 := ⟨ji_M, rfl, by decide, rfl, jlf_M_273⟩
theorem jf_M_276 : j_F "PleasureGardenModel" "PleasureGardenModel" jT_M 71 12 276 61 := ⟨ji_M, rfl, by decide, rfl, jlf_M_276⟩
theorem jf_M_279 : j_F "PleasureGardenModel" "PleasureGardenModel" jT_M 71 12 279 60 := ⟨ji_M, rfl, by decide, rfl, jlf_M_279⟩
theorem jf_M_288 : j_F "PleasureGardenModel" "PleasureGardenModel" jT_M 71 12 288 62 := ⟨ji_M, rfl, by decide, rfl, jlf_M_288⟩
theorem jf_M_310 : j_F "PleasureGardenModel" "PleasureGardenModel" jT_M 71 12 310 52 := ⟨ji_M, rfl, by decide, rfl, jlf_M_310⟩
theorem jf_M_316 : j_F "PleasureGardenModel" "PleasureGardenModel" jT_M 71 12 316 1 := ⟨ji_M, rfl, by decide, rfl, jlf_M_316⟩
theorem jf_M_339 : j_F "PleasureGardenModel" "PleasureGardenModel" jT_M 71 12 339 68 := ⟨ji_M, rfl, by decide, rfl, jlf_M_339⟩
