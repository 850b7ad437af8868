theorem jlk_L_7 : Cond.classLink "PleasureGardenLaw" 7 "PleasureGarden" ∈ j_T := j_in 70 (by decide +kernel) (by decide +kernel)
theorem jlm_L_9 : Cond.methodLink "PleasureGardenLaw" 9 jy_G_init ∈ j_T := j_in 72 (by decide +kernel) (by decide +kernel)
theorem jlk_L_10 : Cond.classLink "PleasureGardenLaw" 10 "PleasureGardenModel" ∈ j_T := j_in 998 (by decide +kernel) (by decide +kernel)
theorem jlm_L_12 : Cond.methodLink "PleasureGardenLaw" 12 jy_M_init ∈ j_T := j_in 1000 (by decide +kernel) (by decide +kernel)
theorem jlm_L_13 : Cond.methodLink "PleasureGardenLaw" 13 jy_G_place ∈ j_T := j_in 460 (by decide +kernel) (by decide +kernel)
theorem jlm_L_17 : Cond.methodLink "PleasureGardenLaw" 17 jy_M_place ∈ j_T := j_in 1218 (by decide +kernel) (by decide +kernel)
theorem jlm_L_18 : Cond.methodLink "PleasureGardenLaw" 18 jy_G_walk ∈ j_T := j_in 471 (by decide +kernel) (by decide +kernel)
theorem jlm_L_22 : Cond.methodLink "PleasureGardenLaw" 22 jy_M_walk ∈ j_T := j_in 1225 (by decide +kernel) (by decide +kernel)
theorem jlm_L_23 : Cond.methodLink "PleasureGardenLaw" 23 jy_G_way ∈ j_T := j_in 483 (by decide +kernel) (by decide +kernel)
theorem jlm_L_26 : Cond.methodLink "PleasureGardenLaw" 26 jy_M_way ∈ j_T := j_in 1233 (by decide +kernel) (by decide +kernel)
theorem jlm_L_27 : Cond.methodLink "PleasureGardenLaw" 27 jy_G_rain ∈ j_T := j_in 493 (by decide +kernel) (by decide +kernel)
theorem jlm_L_30 : Cond.methodLink "PleasureGardenLaw" 30 jy_M_rain ∈ j_T := j_in 1242 (by decide +kernel) (by decide +kernel)
theorem jlm_L_31 : Cond.methodLink "PleasureGardenLaw" 31 jy_G_sell ∈ j_T := j_in 501 (by decide +kernel) (by decide +kernel)
theorem jlm_L_34 : Cond.methodLink "PleasureGardenLaw" 34 jy_M_sell ∈ j_T := j_in 1246 (by decide +kernel) (by decide +kernel)
theorem jlm_L_35 : Cond.methodLink "PleasureGardenLaw" 35 jy_G_enter ∈ j_T := j_in 505 (by decide +kernel) (by decide +kernel)
theorem jlm_L_38 : Cond.methodLink "PleasureGardenLaw" 38 jy_M_enter ∈ j_T := j_in 1253 (by decide +kernel) (by decide +kernel)
theorem jlm_L_39 : Cond.methodLink "PleasureGardenLaw" 39 jy_G_go ∈ j_T := j_in 689 (by decide +kernel) (by decide +kernel)
theorem jlm_L_42 : Cond.methodLink "PleasureGardenLaw" 42 jy_M_go ∈ j_T := j_in 1289 (by decide +kernel) (by decide +kernel)
theorem jlm_L_43 : Cond.methodLink "PleasureGardenLaw" 43 jy_G_leave ∈ j_T := j_in 721 (by decide +kernel) (by decide +kernel)
theorem jlm_L_47 : Cond.methodLink "PleasureGardenLaw" 47 jy_M_leave ∈ j_T := j_in 1309 (by decide +kernel) (by decide +kernel)
theorem jlm_L_48 : Cond.methodLink "PleasureGardenLaw" 48 jy_G_party ∈ j_T := j_in 729 (by decide +kernel) (by decide +kernel)
theorem jlm_L_51 : Cond.methodLink "PleasureGardenLaw" 51 jy_M_party ∈ j_T := j_in 1317 (by decide +kernel) (by decide +kernel)
theorem jlm_L_52 : Cond.methodLink "PleasureGardenLaw" 52 jy_G_heads ∈ j_T := j_in 737 (by decide +kernel) (by decide +kernel)
theorem jlm_L_55 : Cond.methodLink "PleasureGardenLaw" 55 jy_M_heads ∈ j_T := j_in 1321 (by decide +kernel) (by decide +kernel)
theorem jlm_L_56 : Cond.methodLink "PleasureGardenLaw" 56 jy_G_minutes ∈ j_T := j_in 745 (by decide +kernel) (by decide +kernel)
theorem jlm_L_59 : Cond.methodLink "PleasureGardenLaw" 59 jy_M_minutes ∈ j_T := j_in 1329 (by decide +kernel) (by decide +kernel)
theorem jlm_L_60 : Cond.methodLink "PleasureGardenLaw" 60 jy_G_lamp ∈ j_T := j_in 788 (by decide +kernel) (by decide +kernel)
theorem jlm_L_63 : Cond.methodLink "PleasureGardenLaw" 63 jy_M_lamp ∈ j_T := j_in 1345 (by decide +kernel) (by decide +kernel)
theorem jlm_L_64 : Cond.methodLink "PleasureGardenLaw" 64 jy_G_fuse ∈ j_T := j_in 796 (by decide +kernel) (by decide +kernel)
theorem jlm_L_67 : Cond.methodLink "PleasureGardenLaw" 67 jy_M_fuse ∈ j_T := j_in 1349 (by decide +kernel) (by decide +kernel)
theorem jlm_L_68 : Cond.methodLink "PleasureGardenLaw" 68 jy_G_light ∈ j_T := j_in 809 (by decide +kernel) (by decide +kernel)
theorem jlm_L_71 : Cond.methodLink "PleasureGardenLaw" 71 jy_M_light ∈ j_T := j_in 1357 (by decide +kernel) (by decide +kernel)
theorem jlm_L_72 : Cond.methodLink "PleasureGardenLaw" 72 jy_G_burns ∈ j_T := j_in 822 (by decide +kernel) (by decide +kernel)
theorem jlm_L_75 : Cond.methodLink "PleasureGardenLaw" 75 jy_M_burns ∈ j_T := j_in 1365 (by decide +kernel) (by decide +kernel)
theorem jlm_L_76 : Cond.methodLink "PleasureGardenLaw" 76 jy_G_dark ∈ j_T := j_in 830 (by decide +kernel) (by decide +kernel)
theorem jlm_L_80 : Cond.methodLink "PleasureGardenLaw" 80 jy_M_dark ∈ j_T := j_in 1369 (by decide +kernel) (by decide +kernel)
theorem jlm_L_81 : Cond.methodLink "PleasureGardenLaw" 81 jy_G_spent ∈ j_T := j_in 839 (by decide +kernel) (by decide +kernel)
theorem jlm_L_84 : Cond.methodLink "PleasureGardenLaw" 84 jy_M_spent ∈ j_T := j_in 1373 (by decide +kernel) (by decide +kernel)
theorem jlm_L_85 : Cond.methodLink "PleasureGardenLaw" 85 jy_G_best ∈ j_T := j_in 847 (by decide +kernel) (by decide +kernel)
theorem jlm_L_88 : Cond.methodLink "PleasureGardenLaw" 88 jy_M_best ∈ j_T := j_in 1377 (by decide +kernel) (by decide +kernel)
theorem jlm_L_89 : Cond.methodLink "PleasureGardenLaw" 89 jy_G_box ∈ j_T := j_in 859 (by decide +kernel) (by decide +kernel)
theorem jlm_L_92 : Cond.methodLink "PleasureGardenLaw" 92 jy_M_box ∈ j_T := j_in 1381 (by decide +kernel) (by decide +kernel)
theorem jlm_L_93 : Cond.methodLink "PleasureGardenLaw" 93 jy_G_let ∈ j_T := j_in 867 (by decide +kernel) (by decide +kernel)
theorem jlm_L_96 : Cond.methodLink "PleasureGardenLaw" 96 jy_M_let ∈ j_T := j_in 1385 (by decide +kernel) (by decide +kernel)
theorem jlm_L_97 : Cond.methodLink "PleasureGardenLaw" 97 jy_G_rise ∈ j_T := j_in 871 (by decide +kernel) (by decide +kernel)
theorem jlm_L_100 : Cond.methodLink "PleasureGardenLaw" 100 jy_M_rise ∈ j_T := j_in 1397 (by decide +kernel) (by decide +kernel)
theorem jlm_L_101 : Cond.methodLink "PleasureGardenLaw" 101 jy_G_in ∈ j_T := j_in 875 (by decide +kernel) (by decide +kernel)
theorem jlm_L_104 : Cond.methodLink "PleasureGardenLaw" 104 jy_M_in ∈ j_T := j_in 1401 (by decide +kernel) (by decide +kernel)
theorem jlm_L_105 : Cond.methodLink "PleasureGardenLaw" 105 jy_G_ham ∈ j_T := j_in 879 (by decide +kernel) (by decide +kernel)
theorem jlm_L_108 : Cond.methodLink "PleasureGardenLaw" 108 jy_M_ham ∈ j_T := j_in 1405 (by decide +kernel) (by decide +kernel)
theorem jlm_L_109 : Cond.methodLink "PleasureGardenLaw" 109 jy_G_rule ∈ j_T := j_in 884 (by decide +kernel) (by decide +kernel)
theorem jlm_L_112 : Cond.methodLink "PleasureGardenLaw" 112 jy_M_rule ∈ j_T := j_in 1410 (by decide +kernel) (by decide +kernel)
theorem jlm_L_113 : Cond.methodLink "PleasureGardenLaw" 113 jy_G_order ∈ j_T := j_in 888 (by decide +kernel) (by decide +kernel)
theorem jlm_L_116 : Cond.methodLink "PleasureGardenLaw" 116 jy_M_order ∈ j_T := j_in 1414 (by decide +kernel) (by decide +kernel)
theorem jlm_L_117 : Cond.methodLink "PleasureGardenLaw" 117 jy_G_feed ∈ j_T := j_in 893 (by decide +kernel) (by decide +kernel)
theorem jlm_L_120 : Cond.methodLink "PleasureGardenLaw" 120 jy_M_feed ∈ j_T := j_in 1418 (by decide +kernel) (by decide +kernel)
theorem jlm_L_121 : Cond.methodLink "PleasureGardenLaw" 121 jy_G_price ∈ j_T := j_in 901 (by decide +kernel) (by decide +kernel)
theorem jlm_L_124 : Cond.methodLink "PleasureGardenLaw" 124 jy_M_price ∈ j_T := j_in 1422 (by decide +kernel) (by decide +kernel)
theorem jlm_L_125 : Cond.methodLink "PleasureGardenLaw" 125 jy_G_inForce ∈ j_T := j_in 909 (by decide +kernel) (by decide +kernel)
theorem jlm_L_128 : Cond.methodLink "PleasureGardenLaw" 128 jy_M_inForce ∈ j_T := j_in 1458 (by decide +kernel) (by decide +kernel)
theorem jlm_L_129 : Cond.methodLink "PleasureGardenLaw" 129 jy_G_gives ∈ j_T := j_in 913 (by decide +kernel) (by decide +kernel)
theorem jlm_L_132 : Cond.methodLink "PleasureGardenLaw" 132 jy_M_gives ∈ j_T := j_in 1462 (by decide +kernel) (by decide +kernel)
theorem jlm_L_133 : Cond.methodLink "PleasureGardenLaw" 133 jy_G_close ∈ j_T := j_in 918 (by decide +kernel) (by decide +kernel)
theorem jlm_L_136 : Cond.methodLink "PleasureGardenLaw" 136 jy_M_close ∈ j_T := j_in 1467 (by decide +kernel) (by decide +kernel)
theorem jlm_L_137 : Cond.methodLink "PleasureGardenLaw" 137 jy_G_night ∈ j_T := j_in 947 (by decide +kernel) (by decide +kernel)
theorem jlm_L_140 : Cond.methodLink "PleasureGardenLaw" 140 jy_M_night ∈ j_T := j_in 1471 (by decide +kernel) (by decide +kernel)
theorem jlm_L_141 : Cond.methodLink "PleasureGardenLaw" 141 jy_G_foretold ∈ j_T := j_in 951 (by decide +kernel) (by decide +kernel)
theorem jlm_L_144 : Cond.methodLink "PleasureGardenLaw" 144 jy_M_foretold ∈ j_T := j_in 1475 (by decide +kernel) (by decide +kernel)
theorem jlm_L_145 : Cond.methodLink "PleasureGardenLaw" 145 jy_G_stolen ∈ j_T := j_in 966 (by decide +kernel) (by decide +kernel)
theorem jlm_L_148 : Cond.methodLink "PleasureGardenLaw" 148 jy_M_stolen ∈ j_T := j_in 1482 (by decide +kernel) (by decide +kernel)
theorem jlm_L_149 : Cond.methodLink "PleasureGardenLaw" 149 jy_G_near ∈ j_T := j_in 974 (by decide +kernel) (by decide +kernel)
theorem jlm_L_152 : Cond.methodLink "PleasureGardenLaw" 152 jy_M_near ∈ j_T := j_in 1486 (by decide +kernel) (by decide +kernel)
theorem jlm_L_153 : Cond.methodLink "PleasureGardenLaw" 153 jy_G_doubt ∈ j_T := j_in 986 (by decide +kernel) (by decide +kernel)
theorem jlm_L_156 : Cond.methodLink "PleasureGardenLaw" 156 jy_M_doubt ∈ j_T := j_in 1494 (by decide +kernel) (by decide +kernel)
theorem jlm_L_157 : Cond.methodLink "PleasureGardenLaw" 157 jy_G_count ∈ j_T := j_in 994 (by decide +kernel) (by decide +kernel)
theorem jlm_L_160 : Cond.methodLink "PleasureGardenLaw" 160 jy_M_count ∈ j_T := j_in 1498 (by decide +kernel) (by decide +kernel)
/-! rows of the law's own frame: the script lies in the old heap; its end -/
section JW5
variable {p : Program} {l : Launch} {e : Env} {R : Room} {s : State} {m : MethodId} {args : Array Value} {below : List Frame} {meth : Method} {c : Code} {nL : Nat} {g : j_G} {b n cells slots d : Nat} {Q : State → Prop} {I : j_M} {P : j_R} {pc : Nat} {lv lv' : List (Option Value)} {st : List Value} {cc : ByteArray} {own : String} {ret : Option FieldType} {bb L : Nat} {xs : Nat → Int32}
theorem j_xlen (X : j_X p R s m args meth c g b d cc nL own ret) (hX : va_X bb L xs s g.2.2.2.2) (hbb : bb < b) (hd : decode cc pc = .ok (.arraylength, 1)) (k : j_W p l e R s m args below meth c nL g b n cells slots Q I P (pc + 1) lv (.int (nI L) :: st)) : j_W p l e R s m args below meth c nL g b n cells slots Q I P pc lv (.ref bb :: st) := by
  intro H locs ls h1 h2 h3
  obtain ⟨scr, q1, q2, q3, q4, q5⟩ := hX
  exact W.alen (n := nI L) X.1.1 X.1.2.1 (j_old h1 (by omega) q1) q2 (by rw [q4]; rfl) rfl rfl hd (k H locs ls h1 h2 h3)
theorem j_xld (X : j_X p R s m args meth c g b d cc nL own ret) (hX : va_X bb L xs s g.2.2.2.2) (hbb : bb < b) {i : Int32} (hd : decode cc pc = .ok (.iaload, 1)) {α : Type} {A : Option α} {r : α} (h : (if j_ok i L = true then A else none) = some r) (kk : A = some r → j_W p l e R s m args below meth c nL g b n cells slots Q I P (pc + 1) lv (.int (xs (j_ix i)) :: st)) : j_W p l e R s m args below meth c nL g b n cells slots Q I P pc lv (.int i :: .ref bb :: st) := by
  intro H locs ls h1 h2 h3
  by_cases h0 : j_ok i L = true
  · rw [if_pos h0] at h
    obtain ⟨scr, q1, q2, q3, q4, q5⟩ := hX
    exact W.iald (v := .int (xs (j_ix i))) X.1.1 X.1.2.1 (j_old h1 (by omega) q1) q2 q3 (by rw [q4]; exact j_ok_in h0) (q5 _ (j_ok_lt h0)) rfl rfl hd (kk h H locs ls h1 h2 h3)
  · rw [if_neg h0] at h; cases h
theorem j_lawret (X : j_X p room_1 s m #[Value.ref bb] meth c g b d code nL own (some .boolean)) (hbs : b = s.heap.size) (hc : cells ≤ 600000) (hs : slots ≤ 7302250) {v : Int32} {r : Int32 × j_M} (hd : decode code pc = .ok (.ireturn, 1)) (h : some (v, I) = some r) (h1 : r.1 = 1) : j_W p l e room_1 s m #[Value.ref bb] below meth c nL g b n cells slots (lw_Z below #[Value.ref bb] s) I P pc lv [.int v] := by
  cases h
  have hv : v = 1 := h1
  subst hv
  intro H locs ls q1 q2 q3
  refine va_forget (fun q hq => by rw [← hbs]; exact q2.2.2 q hq) ?_
  refine W.widen (k := 600000) (n := 7302250) hc hs ?_
  exact lw_ret X.1.1 X.1.2.1 (X.2.2.1.trans rfl) X.2.1 hd
end JW5

-- PleasureGardenLaw.law([I)Z
theorem jd_L_law_18 : decode code 18 = .ok (.iload_n 3, 1) := by decide +kernel
theorem jd_L_law_19 : decode code 19 = .ok (.aload_n 0, 1) := by decide +kernel
theorem jd_L_law_20 : decode code 20 = .ok (.arraylength, 1) := by decide +kernel
theorem jd_L_law_21 : decode code 21 = .ok (.iconst 4, 1) := by decide +kernel
theorem jd_L_law_22 : decode code 22 = .ok (.isub, 1) := by decide +kernel
theorem jd_L_law_23 : decode code 23 = .ok (.if_icmp .gt 1213, 3) := by decide +kernel
theorem jd_L_law_26 : decode code 26 = .ok (.aload_n 0, 1) := by decide +kernel
theorem jd_L_law_27 : decode code 27 = .ok (.iload_n 3, 1) := by decide +kernel
theorem jd_L_law_28 : decode code 28 = .ok (.iaload, 1) := by decide +kernel
theorem jd_L_law_29 : decode code 29 = .ok (.bipush 63, 2) := by decide +kernel
theorem jd_L_law_31 : decode code 31 = .ok (.iand, 1) := by decide +kernel
theorem jd_L_law_32 : decode code 32 = .ok (.tableswitch 1198 0 35 #[160, 193, 236, 269, 302, 335, 368, 401, 424, 457, 480, 503, 526, 569, 602, 625, 638, 651, 674, 707, 740, 763, 786, 809, 842, 875, 908, 941, 984, 1027, 1040, 1073, 1096, 1129, 1152, 1175], 160) := by decide +kernel
theorem jd_L_law_192 : decode code 192 = .ok (.aload_n 1, 1) := by decide +kernel
theorem jd_L_law_193 : decode code 193 = .ok (.aload_n 0, 1) := by decide +kernel
theorem jd_L_law_194 : decode code 194 = .ok (.iload_n 3, 1) := by decide +kernel
theorem jd_L_law_195 : decode code 195 = .ok (.iconst 1, 1) := by decide +kernel
theorem jd_L_law_196 : decode code 196 = .ok (.iadd, 1) := by decide +kernel
theorem jd_L_law_197 : decode code 197 = .ok (.iaload, 1) := by decide +kernel
theorem jd_L_law_198 : decode code 198 = .ok (.aload_n 0, 1) := by decide +kernel
theorem jd_L_law_199 : decode code 199 = .ok (.iload_n 3, 1) := by decide +kernel
theorem jd_L_law_200 : decode code 200 = .ok (.iconst 2, 1) := by decide +kernel
theorem jd_L_law_201 : decode code 201 = .ok (.iadd, 1) := by decide +kernel
theorem jd_L_law_202 : decode code 202 = .ok (.iaload, 1) := by decide +kernel
theorem jd_L_law_203 : decode code 203 = .ok (.invokevirtual 13, 3) := by decide +kernel
theorem jd_L_law_206 : decode code 206 = .ok (.aload_n 2, 1) := by decide +kernel
theorem jd_L_law_207 : decode code 207 = .ok (.aload_n 0, 1) := by decide +kernel
theorem jd_L_law_208 : decode code 208 = .ok (.iload_n 3, 1) := by decide +kernel
theorem jd_L_law_209 : decode code 209 = .ok (.iconst 1, 1) := by decide +kernel
theorem jd_L_law_210 : decode code 210 = .ok (.iadd, 1) := by decide +kernel
theorem jd_L_law_211 : decode code 211 = .ok (.iaload, 1) := by decide +kernel
theorem jd_L_law_212 : decode code 212 = .ok (.aload_n 0, 1) := by decide +kernel
theorem jd_L_law_213 : decode code 213 = .ok (.iload_n 3, 1) := by decide +kernel
theorem jd_L_law_214 : decode code 214 = .ok (.iconst 2, 1) := by decide +kernel
theorem jd_L_law_215 : decode code 215 = .ok (.iadd, 1) := by decide +kernel
theorem jd_L_law_216 : decode code 216 = .ok (.iaload, 1) := by decide +kernel
theorem jd_L_law_217 : decode code 217 = .ok (.invokevirtual 17, 3) := by decide +kernel
theorem jd_L_law_220 : decode code 220 = .ok (.if_icmp .eq 1010, 3) := by decide +kernel
theorem jd_L_law_223 : decode code 223 = .ok (.iconst 0, 1) := by decide +kernel
theorem jd_L_law_224 : decode code 224 = .ok (.ireturn, 1) := by decide +kernel
theorem jd_L_law_225 : decode code 225 = .ok (.aload_n 1, 1) := by decide +kernel
theorem jd_L_law_226 : decode code 226 = .ok (.aload_n 0, 1) := by decide +kernel
theorem jd_L_law_227 : decode code 227 = .ok (.iload_n 3, 1) := by decide +kernel
theorem jd_L_law_228 : decode code 228 = .ok (.iconst 1, 1) := by decide +kernel
theorem jd_L_law_229 : decode code 229 = .ok (.iadd, 1) := by decide +kernel
theorem jd_L_law_230 : decode code 230 = .ok (.iaload, 1) := by decide +kernel
theorem jd_L_law_231 : decode code 231 = .ok (.aload_n 0, 1) := by decide +kernel
theorem jd_L_law_232 : decode code 232 = .ok (.iload_n 3, 1) := by decide +kernel
theorem jd_L_law_233 : decode code 233 = .ok (.iconst 2, 1) := by decide +kernel
theorem jd_L_law_234 : decode code 234 = .ok (.iadd, 1) := by decide +kernel
theorem jd_L_law_235 : decode code 235 = .ok (.iaload, 1) := by decide +kernel
theorem jd_L_law_236 : decode code 236 = .ok (.aload_n 0, 1) := by decide +kernel
theorem jd_L_law_237 : decode code 237 = .ok (.iload_n 3, 1) := by decide +kernel
theorem jd_L_law_238 : decode code 238 = .ok (.iconst 3, 1) := by decide +kernel
theorem jd_L_law_239 : decode code 239 = .ok (.iadd, 1) := by decide +kernel
theorem jd_L_law_240 : decode code 240 = .ok (.iaload, 1) := by decide +kernel
theorem jd_L_law_241 : decode code 241 = .ok (.invokevirtual 18, 3) := by decide +kernel
theorem jd_L_law_244 : decode code 244 = .ok (.aload_n 2, 1) := by decide +kernel
theorem jd_L_law_245 : decode code 245 = .ok (.aload_n 0, 1) := by decide +kernel
theorem jd_L_law_246 : decode code 246 = .ok (.iload_n 3, 1) := by decide +kernel
theorem jd_L_law_247 : decode code 247 = .ok (.iconst 1, 1) := by decide +kernel
theorem jd_L_law_248 : decode code 248 = .ok (.iadd, 1) := by decide +kernel
theorem jd_L_law_249 : decode code 249 = .ok (.iaload, 1) := by decide +kernel
theorem jd_L_law_250 : decode code 250 = .ok (.aload_n 0, 1) := by decide +kernel
theorem jd_L_law_251 : decode code 251 = .ok (.iload_n 3, 1) := by decide +kernel
theorem jd_L_law_252 : decode code 252 = .ok (.iconst 2, 1) := by decide +kernel
theorem jd_L_law_253 : decode code 253 = .ok (.iadd, 1) := by decide +kernel
theorem jd_L_law_254 : decode code 254 = .ok (.iaload, 1) := by decide +kernel
theorem jd_L_law_255 : decode code 255 = .ok (.aload_n 0, 1) := by decide +kernel
theorem jd_L_law_256 : decode code 256 = .ok (.iload_n 3, 1) := by decide +kernel
theorem jd_L_law_257 : decode code 257 = .ok (.iconst 3, 1) := by decide +kernel
theorem jd_L_law_258 : decode code 258 = .ok (.iadd, 1) := by decide +kernel
theorem jd_L_law_259 : decode code 259 = .ok (.iaload, 1) := by decide +kernel
theorem jd_L_law_260 : decode code 260 = .ok (.invokevirtual 22, 3) := by decide +kernel
theorem jd_L_law_263 : decode code 263 = .ok (.if_icmp .eq 967, 3) := by decide +kernel
theorem jd_L_law_266 : decode code 266 = .ok (.iconst 0, 1) := by decide +kernel
theorem jd_L_law_267 : decode code 267 = .ok (.ireturn, 1) := by decide +kernel
theorem jd_L_law_268 : decode code 268 = .ok (.aload_n 1, 1) := by decide +kernel
theorem jd_L_law_269 : decode code 269 = .ok (.aload_n 0, 1) := by decide +kernel
theorem jd_L_law_270 : decode code 270 = .ok (.iload_n 3, 1) := by decide +kernel
theorem jd_L_law_271 : decode code 271 = .ok (.iconst 1, 1) := by decide +kernel
theorem jd_L_law_272 : decode code 272 = .ok (.iadd, 1) := by decide +kernel
theorem jd_L_law_273 : decode code 273 = .ok (.iaload, 1) := by decide +kernel
theorem jd_L_law_274 : decode code 274 = .ok (.aload_n 0, 1) := by decide +kernel
theorem jd_L_law_275 : decode code 275 = .ok (.iload_n 3, 1) := by decide +kernel
theorem jd_L_law_276 : decode code 276 = .ok (.iconst 2, 1) := by decide +kernel
theorem jd_L_law_277 : decode code 277 = .ok (.iadd, 1) := by decide +kernel
theorem jd_L_law_278 : decode code 278 = .ok (.iaload, 1) := by decide +kernel
theorem jd_L_law_279 : decode code 279 = .ok (.invokevirtual 23, 3) := by decide +kernel
theorem jd_L_law_282 : decode code 282 = .ok (.aload_n 2, 1) := by decide +kernel
theorem jd_L_law_283 : decode code 283 = .ok (.aload_n 0, 1) := by decide +kernel
theorem jd_L_law_284 : decode code 284 = .ok (.iload_n 3, 1) := by decide +kernel
theorem jd_L_law_285 : decode code 285 = .ok (.iconst 1, 1) := by decide +kernel
theorem jd_L_law_286 : decode code 286 = .ok (.iadd, 1) := by decide +kernel
theorem jd_L_law_287 : decode code 287 = .ok (.iaload, 1) := by decide +kernel
theorem jd_L_law_288 : decode code 288 = .ok (.aload_n 0, 1) := by decide +kernel
theorem jd_L_law_289 : decode code 289 = .ok (.iload_n 3, 1) := by decide +kernel
theorem jd_L_law_290 : decode code 290 = .ok (.iconst 2, 1) := by decide +kernel
theorem jd_L_law_291 : decode code 291 = .ok (.iadd, 1) := by decide +kernel
theorem jd_L_law_292 : decode code 292 = .ok (.iaload, 1) := by decide +kernel
theorem jd_L_law_293 : decode code 293 = .ok (.invokevirtual 26, 3) := by decide +kernel
theorem jd_L_law_296 : decode code 296 = .ok (.if_icmp .eq 934, 3) := by decide +kernel
theorem jd_L_law_299 : decode code 299 = .ok (.iconst 0, 1) := by decide +kernel
theorem jd_L_law_300 : decode code 300 = .ok (.ireturn, 1) := by decide +kernel
theorem jd_L_law_301 : decode code 301 = .ok (.aload_n 1, 1) := by decide +kernel
theorem jd_L_law_302 : decode code 302 = .ok (.aload_n 0, 1) := by decide +kernel
theorem jd_L_law_303 : decode code 303 = .ok (.iload_n 3, 1) := by decide +kernel
theorem jd_L_law_304 : decode code 304 = .ok (.iconst 1, 1) := by decide +kernel
theorem jd_L_law_305 : decode code 305 = .ok (.iadd, 1) := by decide +kernel
theorem jd_L_law_306 : decode code 306 = .ok (.iaload, 1) := by decide +kernel
theorem jd_L_law_307 : decode code 307 = .ok (.aload_n 0, 1) := by decide +kernel
theorem jd_L_law_308 : decode code 308 = .ok (.iload_n 3, 1) := by decide +kernel
theorem jd_L_law_309 : decode code 309 = .ok (.iconst 2, 1) := by decide +kernel
theorem jd_L_law_310 : decode code 310 = .ok (.iadd, 1) := by decide +kernel
theorem jd_L_law_311 : decode code 311 = .ok (.iaload, 1) := by decide +kernel
theorem jd_L_law_312 : decode code 312 = .ok (.invokevirtual 27, 3) := by decide +kernel
theorem jd_L_law_315 : decode code 315 = .ok (.aload_n 2, 1) := by decide +kernel
theorem jd_L_law_316 : decode code 316 = .ok (.aload_n 0, 1) := by decide +kernel
theorem jd_L_law_317 : decode code 317 = .ok (.iload_n 3, 1) := by decide +kernel
theorem jd_L_law_318 : decode code 318 = .ok (.iconst 1, 1) := by decide +kernel
theorem jd_L_law_319 : decode code 319 = .ok (.iadd, 1) := by decide +kernel
theorem jd_L_law_320 : decode code 320 = .ok (.iaload, 1) := by decide +kernel
theorem jd_L_law_321 : decode code 321 = .ok (.aload_n 0, 1) := by decide +kernel
theorem jd_L_law_322 : decode code 322 = .ok (.iload_n 3, 1) := by decide +kernel
theorem jd_L_law_323 : decode code 323 = .ok (.iconst 2, 1) := by decide +kernel
theorem jd_L_law_324 : decode code 324 = .ok (.iadd, 1) := by decide +kernel
theorem jd_L_law_325 : decode code 325 = .ok (.iaload, 1) := by decide +kernel
theorem jd_L_law_326 : decode code 326 = .ok (.invokevirtual 30, 3) := by decide +kernel
theorem jd_L_law_329 : decode code 329 = .ok (.if_icmp .eq 901, 3) := by decide +kernel
theorem jd_L_law_332 : decode code 332 = .ok (.iconst 0, 1) := by decide +kernel
theorem jd_L_law_333 : decode code 333 = .ok (.ireturn, 1) := by decide +kernel
theorem jd_L_law_334 : decode code 334 = .ok (.aload_n 1, 1) := by decide +kernel
theorem jd_L_law_335 : decode code 335 = .ok (.aload_n 0, 1) := by decide +kernel
theorem jd_L_law_336 : decode code 336 = .ok (.iload_n 3, 1) := by decide +kernel
theorem jd_L_law_337 : decode code 337 = .ok (.iconst 1, 1) := by decide +kernel
theorem jd_L_law_338 : decode code 338 = .ok (.iadd, 1) := by decide +kernel
theorem jd_L_law_339 : decode code 339 = .ok (.iaload, 1) := by decide +kernel
theorem jd_L_law_340 : decode code 340 = .ok (.aload_n 0, 1) := by decide +kernel
theorem jd_L_law_341 : decode code 341 = .ok (.iload_n 3, 1) := by decide +kernel
theorem jd_L_law_342 : decode code 342 = .ok (.iconst 2, 1) := by decide +kernel
theorem jd_L_law_343 : decode code 343 = .ok (.iadd, 1) := by decide +kernel
theorem jd_L_law_344 : decode code 344 = .ok (.iaload, 1) := by decide +kernel
theorem jd_L_law_345 : decode code 345 = .ok (.invokevirtual 31, 3) := by decide +kernel
theorem jd_L_law_348 : decode code 348 = .ok (.aload_n 2, 1) := by decide +kernel
theorem jd_L_law_349 : decode code 349 = .ok (.aload_n 0, 1) := by decide +kernel
theorem jd_L_law_350 : decode code 350 = .ok (.iload_n 3, 1) := by decide +kernel
theorem jd_L_law_351 : decode code 351 = .ok (.iconst 1, 1) := by decide +kernel
theorem jd_L_law_352 : decode code 352 = .ok (.iadd, 1) := by decide +kernel
theorem jd_L_law_353 : decode code 353 = .ok (.iaload, 1) := by decide +kernel
theorem jd_L_law_354 : decode code 354 = .ok (.aload_n 0, 1) := by decide +kernel
theorem jd_L_law_355 : decode code 355 = .ok (.iload_n 3, 1) := by decide +kernel
theorem jd_L_law_356 : decode code 356 = .ok (.iconst 2, 1) := by decide +kernel
theorem jd_L_law_357 : decode code 357 = .ok (.iadd, 1) := by decide +kernel
theorem jd_L_law_358 : decode code 358 = .ok (.iaload, 1) := by decide +kernel
theorem jd_L_law_359 : decode code 359 = .ok (.invokevirtual 34, 3) := by decide +kernel
theorem jd_L_law_362 : decode code 362 = .ok (.if_icmp .eq 868, 3) := by decide +kernel
theorem jd_L_law_365 : decode code 365 = .ok (.iconst 0, 1) := by decide +kernel
theorem jd_L_law_366 : decode code 366 = .ok (.ireturn, 1) := by decide +kernel
theorem jd_L_law_367 : decode code 367 = .ok (.aload_n 1, 1) := by decide +kernel
theorem jd_L_law_368 : decode code 368 = .ok (.aload_n 0, 1) := by decide +kernel
theorem jd_L_law_369 : decode code 369 = .ok (.iload_n 3, 1) := by decide +kernel
theorem jd_L_law_370 : decode code 370 = .ok (.iconst 1, 1) := by decide +kernel
theorem jd_L_law_371 : decode code 371 = .ok (.iadd, 1) := by decide +kernel
theorem jd_L_law_372 : decode code 372 = .ok (.iaload, 1) := by decide +kernel
theorem jd_L_law_373 : decode code 373 = .ok (.aload_n 0, 1) := by decide +kernel
theorem jd_L_law_374 : decode code 374 = .ok (.iload_n 3, 1) := by decide +kernel
theorem jd_L_law_375 : decode code 375 = .ok (.iconst 2, 1) := by decide +kernel
theorem jd_L_law_376 : decode code 376 = .ok (.iadd, 1) := by decide +kernel
theorem jd_L_law_377 : decode code 377 = .ok (.iaload, 1) := by decide +kernel
theorem jd_L_law_378 : decode code 378 = .ok (.invokevirtual 35, 3) := by decide +kernel
theorem jd_L_law_381 : decode code 381 = .ok (.aload_n 2, 1) := by decide +kernel
theorem jd_L_law_382 : decode code 382 = .ok (.aload_n 0, 1) := by decide +kernel
theorem jd_L_law_383 : decode code 383 = .ok (.iload_n 3, 1) := by decide +kernel
theorem jd_L_law_384 : decode code 384 = .ok (.iconst 1, 1) := by decide +kernel
theorem jd_L_law_385 : decode code 385 = .ok (.iadd, 1) := by decide +kernel
theorem jd_L_law_386 : decode code 386 = .ok (.iaload, 1) := by decide +kernel
theorem jd_L_law_387 : decode code 387 = .ok (.aload_n 0, 1) := by decide +kernel
theorem jd_L_law_388 : decode code 388 = .ok (.iload_n 3, 1) := by decide +kernel
theorem jd_L_law_389 : decode code 389 = .ok (.iconst 2, 1) := by decide +kernel
theorem jd_L_law_390 : decode code 390 = .ok (.iadd, 1) := by decide +kernel
theorem jd_L_law_391 : decode code 391 = .ok (.iaload, 1) := by decide +kernel
theorem jd_L_law_392 : decode code 392 = .ok (.invokevirtual 38, 3) := by decide +kernel
theorem jd_L_law_395 : decode code 395 = .ok (.if_icmp .eq 835, 3) := by decide +kernel
theorem jd_L_law_398 : decode code 398 = .ok (.iconst 0, 1) := by decide +kernel
theorem jd_L_law_399 : decode code 399 = .ok (.ireturn, 1) := by decide +kernel
theorem jd_L_law_400 : decode code 400 = .ok (.aload_n 1, 1) := by decide +kernel
theorem jd_L_law_401 : decode code 401 = .ok (.aload_n 0, 1) := by decide +kernel
theorem jd_L_law_402 : decode code 402 = .ok (.iload_n 3, 1) := by decide +kernel
theorem jd_L_law_403 : decode code 403 = .ok (.iconst 1, 1) := by decide +kernel
theorem jd_L_law_404 : decode code 404 = .ok (.iadd, 1) := by decide +kernel
theorem jd_L_law_405 : decode code 405 = .ok (.iaload, 1) := by decide +kernel
theorem jd_L_law_406 : decode code 406 = .ok (.aload_n 0, 1) := by decide +kernel
theorem jd_L_law_407 : decode code 407 = .ok (.iload_n 3, 1) := by decide +kernel
theorem jd_L_law_408 : decode code 408 = .ok (.iconst 2, 1) := by decide +kernel
theorem jd_L_law_409 : decode code 409 = .ok (.iadd, 1) := by decide +kernel
theorem jd_L_law_410 : decode code 410 = .ok (.iaload, 1) := by decide +kernel
theorem jd_L_law_411 : decode code 411 = .ok (.invokevirtual 39, 3) := by decide +kernel
theorem jd_L_law_414 : decode code 414 = .ok (.aload_n 2, 1) := by decide +kernel
theorem jd_L_law_415 : decode code 415 = .ok (.aload_n 0, 1) := by decide +kernel
theorem jd_L_law_416 : decode code 416 = .ok (.iload_n 3, 1) := by decide +kernel
theorem jd_L_law_417 : decode code 417 = .ok (.iconst 1, 1) := by decide +kernel
theorem jd_L_law_418 : decode code 418 = .ok (.iadd, 1) := by decide +kernel
theorem jd_L_law_419 : decode code 419 = .ok (.iaload, 1) := by decide +kernel
theorem jd_L_law_420 : decode code 420 = .ok (.aload_n 0, 1) := by decide +kernel
theorem jd_L_law_421 : decode code 421 = .ok (.iload_n 3, 1) := by decide +kernel
theorem jd_L_law_422 : decode code 422 = .ok (.iconst 2, 1) := by decide +kernel
theorem jd_L_law_423 : decode code 423 = .ok (.iadd, 1) := by decide +kernel
theorem jd_L_law_424 : decode code 424 = .ok (.iaload, 1) := by decide +kernel
theorem jd_L_law_425 : decode code 425 = .ok (.invokevirtual 42, 3) := by decide +kernel
theorem jd_L_law_428 : decode code 428 = .ok (.if_icmp .eq 802, 3) := by decide +kernel
theorem jd_L_law_431 : decode code 431 = .ok (.iconst 0, 1) := by decide +kernel
theorem jd_L_law_432 : decode code 432 = .ok (.ireturn, 1) := by decide +kernel
theorem jd_L_law_433 : decode code 433 = .ok (.aload_n 1, 1) := by decide +kernel
theorem jd_L_law_434 : decode code 434 = .ok (.aload_n 0, 1) := by decide +kernel
theorem jd_L_law_435 : decode code 435 = .ok (.iload_n 3, 1) := by decide +kernel
theorem jd_L_law_436 : decode code 436 = .ok (.iconst 1, 1) := by decide +kernel
theorem jd_L_law_437 : decode code 437 = .ok (.iadd, 1) := by decide +kernel
theorem jd_L_law_438 : decode code 438 = .ok (.iaload, 1) := by decide +kernel
theorem jd_L_law_439 : decode code 439 = .ok (.invokevirtual 43, 3) := by decide +kernel
theorem jd_L_law_442 : decode code 442 = .ok (.aload_n 2, 1) := by decide +kernel
theorem jd_L_law_443 : decode code 443 = .ok (.aload_n 0, 1) := by decide +kernel
theorem jd_L_law_444 : decode code 444 = .ok (.iload_n 3, 1) := by decide +kernel
theorem jd_L_law_445 : decode code 445 = .ok (.iconst 1, 1) := by decide +kernel
theorem jd_L_law_446 : decode code 446 = .ok (.iadd, 1) := by decide +kernel
theorem jd_L_law_447 : decode code 447 = .ok (.iaload, 1) := by decide +kernel
theorem jd_L_law_448 : decode code 448 = .ok (.invokevirtual 47, 3) := by decide +kernel
theorem jd_L_law_451 : decode code 451 = .ok (.if_icmp .eq 779, 3) := by decide +kernel
theorem jd_L_law_454 : decode code 454 = .ok (.iconst 0, 1) := by decide +kernel
theorem jd_L_law_455 : decode code 455 = .ok (.ireturn, 1) := by decide +kernel
theorem jd_L_law_456 : decode code 456 = .ok (.aload_n 1, 1) := by decide +kernel
theorem jd_L_law_457 : decode code 457 = .ok (.aload_n 0, 1) := by decide +kernel
theorem jd_L_law_458 : decode code 458 = .ok (.iload_n 3, 1) := by decide +kernel
theorem jd_L_law_459 : decode code 459 = .ok (.iconst 1, 1) := by decide +kernel
theorem jd_L_law_460 : decode code 460 = .ok (.iadd, 1) := by decide +kernel
theorem jd_L_law_461 : decode code 461 = .ok (.iaload, 1) := by decide +kernel
theorem jd_L_law_462 : decode code 462 = .ok (.aload_n 0, 1) := by decide +kernel
theorem jd_L_law_463 : decode code 463 = .ok (.iload_n 3, 1) := by decide +kernel
theorem jd_L_law_464 : decode code 464 = .ok (.iconst 2, 1) := by decide +kernel
theorem jd_L_law_465 : decode code 465 = .ok (.iadd, 1) := by decide +kernel
theorem jd_L_law_466 : decode code 466 = .ok (.iaload, 1) := by decide +kernel
theorem jd_L_law_467 : decode code 467 = .ok (.invokevirtual 48, 3) := by decide +kernel
theorem jd_L_law_470 : decode code 470 = .ok (.aload_n 2, 1) := by decide +kernel
theorem jd_L_law_471 : decode code 471 = .ok (.aload_n 0, 1) := by decide +kernel
theorem jd_L_law_472 : decode code 472 = .ok (.iload_n 3, 1) := by decide +kernel
theorem jd_L_law_473 : decode code 473 = .ok (.iconst 1, 1) := by decide +kernel
theorem jd_L_law_474 : decode code 474 = .ok (.iadd, 1) := by decide +kernel
theorem jd_L_law_475 : decode code 475 = .ok (.iaload, 1) := by decide +kernel
theorem jd_L_law_476 : decode code 476 = .ok (.aload_n 0, 1) := by decide +kernel
theorem jd_L_law_477 : decode code 477 = .ok (.iload_n 3, 1) := by decide +kernel
theorem jd_L_law_478 : decode code 478 = .ok (.iconst 2, 1) := by decide +kernel
theorem jd_L_law_479 : decode code 479 = .ok (.iadd, 1) := by decide +kernel
theorem jd_L_law_480 : decode code 480 = .ok (.iaload, 1) := by decide +kernel
theorem jd_L_law_481 : decode code 481 = .ok (.invokevirtual 51, 3) := by decide +kernel
theorem jd_L_law_484 : decode code 484 = .ok (.if_icmp .eq 746, 3) := by decide +kernel
theorem jd_L_law_487 : decode code 487 = .ok (.iconst 0, 1) := by decide +kernel
theorem jd_L_law_488 : decode code 488 = .ok (.ireturn, 1) := by decide +kernel
theorem jd_L_law_489 : decode code 489 = .ok (.aload_n 1, 1) := by decide +kernel
theorem jd_L_law_490 : decode code 490 = .ok (.aload_n 0, 1) := by decide +kernel
theorem jd_L_law_491 : decode code 491 = .ok (.iload_n 3, 1) := by decide +kernel
theorem jd_L_law_492 : decode code 492 = .ok (.iconst 1, 1) := by decide +kernel
theorem jd_L_law_493 : decode code 493 = .ok (.iadd, 1) := by decide +kernel
theorem jd_L_law_494 : decode code 494 = .ok (.iaload, 1) := by decide +kernel
theorem jd_L_law_495 : decode code 495 = .ok (.invokevirtual 52, 3) := by decide +kernel
theorem jd_L_law_498 : decode code 498 = .ok (.aload_n 2, 1) := by decide +kernel
theorem jd_L_law_499 : decode code 499 = .ok (.aload_n 0, 1) := by decide +kernel
theorem jd_L_law_500 : decode code 500 = .ok (.iload_n 3, 1) := by decide +kernel
theorem jd_L_law_501 : decode code 501 = .ok (.iconst 1, 1) := by decide +kernel
theorem jd_L_law_502 : decode code 502 = .ok (.iadd, 1) := by decide +kernel
theorem jd_L_law_503 : decode code 503 = .ok (.iaload, 1) := by decide +kernel
theorem jd_L_law_504 : decode code 504 = .ok (.invokevirtual 55, 3) := by decide +kernel
theorem jd_L_law_507 : decode code 507 = .ok (.if_icmp .eq 723, 3) := by decide +kernel
theorem jd_L_law_510 : decode code 510 = .ok (.iconst 0, 1) := by decide +kernel
theorem jd_L_law_511 : decode code 511 = .ok (.ireturn, 1) := by decide +kernel
theorem jd_L_law_512 : decode code 512 = .ok (.aload_n 1, 1) := by decide +kernel
theorem jd_L_law_513 : decode code 513 = .ok (.aload_n 0, 1) := by decide +kernel
theorem jd_L_law_514 : decode code 514 = .ok (.iload_n 3, 1) := by decide +kernel
theorem jd_L_law_515 : decode code 515 = .ok (.iconst 1, 1) := by decide +kernel
theorem jd_L_law_516 : decode code 516 = .ok (.iadd, 1) := by decide +kernel
theorem jd_L_law_517 : decode code 517 = .ok (.iaload, 1) := by decide +kernel
theorem jd_L_law_518 : decode code 518 = .ok (.invokevirtual 56, 3) := by decide +kernel
theorem jd_L_law_521 : decode code 521 = .ok (.aload_n 2, 1) := by decide +kernel
theorem jd_L_law_522 : decode code 522 = .ok (.aload_n 0, 1) := by decide +kernel
theorem jd_L_law_523 : decode code 523 = .ok (.iload_n 3, 1) := by decide +kernel
theorem jd_L_law_524 : decode code 524 = .ok (.iconst 1, 1) := by decide +kernel
theorem jd_L_law_525 : decode code 525 = .ok (.iadd, 1) := by decide +kernel
theorem jd_L_law_526 : decode code 526 = .ok (.iaload, 1) := by decide +kernel
theorem jd_L_law_527 : decode code 527 = .ok (.invokevirtual 59, 3) := by decide +kernel
theorem jd_L_law_530 : decode code 530 = .ok (.if_icmp .eq 700, 3) := by decide +kernel
theorem jd_L_law_533 : decode code 533 = .ok (.iconst 0, 1) := by decide +kernel
theorem jd_L_law_534 : decode code 534 = .ok (.ireturn, 1) := by decide +kernel
theorem jd_L_law_535 : decode code 535 = .ok (.aload_n 1, 1) := by decide +kernel
theorem jd_L_law_536 : decode code 536 = .ok (.aload_n 0, 1) := by decide +kernel
theorem jd_L_law_537 : decode code 537 = .ok (.iload_n 3, 1) := by decide +kernel
theorem jd_L_law_538 : decode code 538 = .ok (.iconst 1, 1) := by decide +kernel
theorem jd_L_law_539 : decode code 539 = .ok (.iadd, 1) := by decide +kernel
theorem jd_L_law_540 : decode code 540 = .ok (.iaload, 1) := by decide +kernel
theorem jd_L_law_541 : decode code 541 = .ok (.invokevirtual 60, 3) := by decide +kernel
theorem jd_L_law_544 : decode code 544 = .ok (.aload_n 2, 1) := by decide +kernel
theorem jd_L_law_545 : decode code 545 = .ok (.aload_n 0, 1) := by decide +kernel
theorem jd_L_law_546 : decode code 546 = .ok (.iload_n 3, 1) := by decide +kernel
theorem jd_L_law_547 : decode code 547 = .ok (.iconst 1, 1) := by decide +kernel
theorem jd_L_law_548 : decode code 548 = .ok (.iadd, 1) := by decide +kernel
theorem jd_L_law_549 : decode code 549 = .ok (.iaload, 1) := by decide +kernel
theorem jd_L_law_550 : decode code 550 = .ok (.invokevirtual 63, 3) := by decide +kernel
theorem jd_L_law_553 : decode code 553 = .ok (.if_icmp .eq 677, 3) := by decide +kernel
theorem jd_L_law_556 : decode code 556 = .ok (.iconst 0, 1) := by decide +kernel
theorem jd_L_law_557 : decode code 557 = .ok (.ireturn, 1) := by decide +kernel
theorem jd_L_law_558 : decode code 558 = .ok (.aload_n 1, 1) := by decide +kernel
theorem jd_L_law_559 : decode code 559 = .ok (.aload_n 0, 1) := by decide +kernel
theorem jd_L_law_560 : decode code 560 = .ok (.iload_n 3, 1) := by decide +kernel
theorem jd_L_law_561 : decode code 561 = .ok (.iconst 1, 1) := by decide +kernel
theorem jd_L_law_562 : decode code 562 = .ok (.iadd, 1) := by decide +kernel
theorem jd_L_law_563 : decode code 563 = .ok (.iaload, 1) := by decide +kernel
theorem jd_L_law_564 : decode code 564 = .ok (.aload_n 0, 1) := by decide +kernel
theorem jd_L_law_565 : decode code 565 = .ok (.iload_n 3, 1) := by decide +kernel
theorem jd_L_law_566 : decode code 566 = .ok (.iconst 2, 1) := by decide +kernel
theorem jd_L_law_567 : decode code 567 = .ok (.iadd, 1) := by decide +kernel
theorem jd_L_law_568 : decode code 568 = .ok (.iaload, 1) := by decide +kernel
theorem jd_L_law_569 : decode code 569 = .ok (.aload_n 0, 1) := by decide +kernel
theorem jd_L_law_570 : decode code 570 = .ok (.iload_n 3, 1) := by decide +kernel
theorem jd_L_law_571 : decode code 571 = .ok (.iconst 3, 1) := by decide +kernel
theorem jd_L_law_572 : decode code 572 = .ok (.iadd, 1) := by decide +kernel
theorem jd_L_law_573 : decode code 573 = .ok (.iaload, 1) := by decide +kernel
theorem jd_L_law_574 : decode code 574 = .ok (.invokevirtual 64, 3) := by decide +kernel
theorem jd_L_law_577 : decode code 577 = .ok (.aload_n 2, 1) := by decide +kernel
theorem jd_L_law_578 : decode code 578 = .ok (.aload_n 0, 1) := by decide +kernel
theorem jd_L_law_579 : decode code 579 = .ok (.iload_n 3, 1) := by decide +kernel
theorem jd_L_law_580 : decode code 580 = .ok (.iconst 1, 1) := by decide +kernel
theorem jd_L_law_581 : decode code 581 = .ok (.iadd, 1) := by decide +kernel
theorem jd_L_law_582 : decode code 582 = .ok (.iaload, 1) := by decide +kernel
theorem jd_L_law_583 : decode code 583 = .ok (.aload_n 0, 1) := by decide +kernel
theorem jd_L_law_584 : decode code 584 = .ok (.iload_n 3, 1) := by decide +kernel
theorem jd_L_law_585 : decode code 585 = .ok (.iconst 2, 1) := by decide +kernel
theorem jd_L_law_586 : decode code 586 = .ok (.iadd, 1) := by decide +kernel
theorem jd_L_law_587 : decode code 587 = .ok (.iaload, 1) := by decide +kernel
theorem jd_L_law_588 : decode code 588 = .ok (.aload_n 0, 1) := by decide +kernel
theorem jd_L_law_589 : decode code 589 = .ok (.iload_n 3, 1) := by decide +kernel
theorem jd_L_law_590 : decode code 590 = .ok (.iconst 3, 1) := by decide +kernel
theorem jd_L_law_591 : decode code 591 = .ok (.iadd, 1) := by decide +kernel
theorem jd_L_law_592 : decode code 592 = .ok (.iaload, 1) := by decide +kernel
theorem jd_L_law_593 : decode code 593 = .ok (.invokevirtual 67, 3) := by decide +kernel
theorem jd_L_law_596 : decode code 596 = .ok (.if_icmp .eq 634, 3) := by decide +kernel
theorem jd_L_law_599 : decode code 599 = .ok (.iconst 0, 1) := by decide +kernel
theorem jd_L_law_600 : decode code 600 = .ok (.ireturn, 1) := by decide +kernel
theorem jd_L_law_601 : decode code 601 = .ok (.aload_n 1, 1) := by decide +kernel
theorem jd_L_law_602 : decode code 602 = .ok (.aload_n 0, 1) := by decide +kernel
theorem jd_L_law_603 : decode code 603 = .ok (.iload_n 3, 1) := by decide +kernel
theorem jd_L_law_604 : decode code 604 = .ok (.iconst 1, 1) := by decide +kernel
theorem jd_L_law_605 : decode code 605 = .ok (.iadd, 1) := by decide +kernel
theorem jd_L_law_606 : decode code 606 = .ok (.iaload, 1) := by decide +kernel
theorem jd_L_law_607 : decode code 607 = .ok (.aload_n 0, 1) := by decide +kernel
theorem jd_L_law_608 : decode code 608 = .ok (.iload_n 3, 1) := by decide +kernel
theorem jd_L_law_609 : decode code 609 = .ok (.iconst 2, 1) := by decide +kernel
theorem jd_L_law_610 : decode code 610 = .ok (.iadd, 1) := by decide +kernel
theorem jd_L_law_611 : decode code 611 = .ok (.iaload, 1) := by decide +kernel
theorem jd_L_law_612 : decode code 612 = .ok (.invokevirtual 68, 3) := by decide +kernel
theorem jd_L_law_615 : decode code 615 = .ok (.aload_n 2, 1) := by decide +kernel
theorem jd_L_law_616 : decode code 616 = .ok (.aload_n 0, 1) := by decide +kernel
theorem jd_L_law_617 : decode code 617 = .ok (.iload_n 3, 1) := by decide +kernel
theorem jd_L_law_618 : decode code 618 = .ok (.iconst 1, 1) := by decide +kernel
theorem jd_L_law_619 : decode code 619 = .ok (.iadd, 1) := by decide +kernel
theorem jd_L_law_620 : decode code 620 = .ok (.iaload, 1) := by decide +kernel
theorem jd_L_law_621 : decode code 621 = .ok (.aload_n 0, 1) := by decide +kernel
theorem jd_L_law_622 : decode code 622 = .ok (.iload_n 3, 1) := by decide +kernel
theorem jd_L_law_623 : decode code 623 = .ok (.iconst 2, 1) := by decide +kernel
theorem jd_L_law_624 : decode code 624 = .ok (.iadd, 1) := by decide +kernel
theorem jd_L_law_625 : decode code 625 = .ok (.iaload, 1) := by decide +kernel
theorem jd_L_law_626 : decode code 626 = .ok (.invokevirtual 71, 3) := by decide +kernel
theorem jd_L_law_629 : decode code 629 = .ok (.if_icmp .eq 601, 3) := by decide +kernel
theorem jd_L_law_632 : decode code 632 = .ok (.iconst 0, 1) := by decide +kernel
theorem jd_L_law_633 : decode code 633 = .ok (.ireturn, 1) := by decide +kernel
theorem jd_L_law_634 : decode code 634 = .ok (.aload_n 1, 1) := by decide +kernel
theorem jd_L_law_635 : decode code 635 = .ok (.aload_n 0, 1) := by decide +kernel
theorem jd_L_law_636 : decode code 636 = .ok (.iload_n 3, 1) := by decide +kernel
theorem jd_L_law_637 : decode code 637 = .ok (.iconst 1, 1) := by decide +kernel
theorem jd_L_law_638 : decode code 638 = .ok (.iadd, 1) := by decide +kernel
theorem jd_L_law_639 : decode code 639 = .ok (.iaload, 1) := by decide +kernel
theorem jd_L_law_640 : decode code 640 = .ok (.invokevirtual 72, 3) := by decide +kernel
theorem jd_L_law_643 : decode code 643 = .ok (.aload_n 2, 1) := by decide +kernel
theorem jd_L_law_644 : decode code 644 = .ok (.aload_n 0, 1) := by decide +kernel
theorem jd_L_law_645 : decode code 645 = .ok (.iload_n 3, 1) := by decide +kernel
theorem jd_L_law_646 : decode code 646 = .ok (.iconst 1, 1) := by decide +kernel
theorem jd_L_law_647 : decode code 647 = .ok (.iadd, 1) := by decide +kernel
theorem jd_L_law_648 : decode code 648 = .ok (.iaload, 1) := by decide +kernel
theorem jd_L_law_649 : decode code 649 = .ok (.invokevirtual 75, 3) := by decide +kernel
theorem jd_L_law_652 : decode code 652 = .ok (.if_icmp .eq 578, 3) := by decide +kernel
theorem jd_L_law_655 : decode code 655 = .ok (.iconst 0, 1) := by decide +kernel
theorem jd_L_law_656 : decode code 656 = .ok (.ireturn, 1) := by decide +kernel
theorem jd_L_law_657 : decode code 657 = .ok (.aload_n 1, 1) := by decide +kernel
theorem jd_L_law_658 : decode code 658 = .ok (.invokevirtual 76, 3) := by decide +kernel
theorem jd_L_law_661 : decode code 661 = .ok (.aload_n 2, 1) := by decide +kernel
theorem jd_L_law_662 : decode code 662 = .ok (.invokevirtual 80, 3) := by decide +kernel
theorem jd_L_law_665 : decode code 665 = .ok (.if_icmp .eq 565, 3) := by decide +kernel
theorem jd_L_law_668 : decode code 668 = .ok (.iconst 0, 1) := by decide +kernel
theorem jd_L_law_669 : decode code 669 = .ok (.ireturn, 1) := by decide +kernel
theorem jd_L_law_670 : decode code 670 = .ok (.aload_n 1, 1) := by decide +kernel
theorem jd_L_law_671 : decode code 671 = .ok (.invokevirtual 81, 3) := by decide +kernel
theorem jd_L_law_674 : decode code 674 = .ok (.aload_n 2, 1) := by decide +kernel
theorem jd_L_law_675 : decode code 675 = .ok (.invokevirtual 84, 3) := by decide +kernel
theorem jd_L_law_678 : decode code 678 = .ok (.if_icmp .eq 552, 3) := by decide +kernel
theorem jd_L_law_681 : decode code 681 = .ok (.iconst 0, 1) := by decide +kernel
theorem jd_L_law_682 : decode code 682 = .ok (.ireturn, 1) := by decide +kernel
theorem jd_L_law_683 : decode code 683 = .ok (.aload_n 1, 1) := by decide +kernel
theorem jd_L_law_684 : decode code 684 = .ok (.aload_n 0, 1) := by decide +kernel
theorem jd_L_law_685 : decode code 685 = .ok (.iload_n 3, 1) := by decide +kernel
theorem jd_L_law_686 : decode code 686 = .ok (.iconst 1, 1) := by decide +kernel
theorem jd_L_law_687 : decode code 687 = .ok (.iadd, 1) := by decide +kernel
theorem jd_L_law_688 : decode code 688 = .ok (.iaload, 1) := by decide +kernel
theorem jd_L_law_689 : decode code 689 = .ok (.invokevirtual 85, 3) := by decide +kernel
theorem jd_L_law_692 : decode code 692 = .ok (.aload_n 2, 1) := by decide +kernel
theorem jd_L_law_693 : decode code 693 = .ok (.aload_n 0, 1) := by decide +kernel
theorem jd_L_law_694 : decode code 694 = .ok (.iload_n 3, 1) := by decide +kernel
theorem jd_L_law_695 : decode code 695 = .ok (.iconst 1, 1) := by decide +kernel
theorem jd_L_law_696 : decode code 696 = .ok (.iadd, 1) := by decide +kernel
theorem jd_L_law_697 : decode code 697 = .ok (.iaload, 1) := by decide +kernel
theorem jd_L_law_698 : decode code 698 = .ok (.invokevirtual 88, 3) := by decide +kernel
theorem jd_L_law_701 : decode code 701 = .ok (.if_icmp .eq 529, 3) := by decide +kernel
theorem jd_L_law_704 : decode code 704 = .ok (.iconst 0, 1) := by decide +kernel
theorem jd_L_law_705 : decode code 705 = .ok (.ireturn, 1) := by decide +kernel
theorem jd_L_law_706 : decode code 706 = .ok (.aload_n 1, 1) := by decide +kernel
theorem jd_L_law_707 : decode code 707 = .ok (.aload_n 0, 1) := by decide +kernel
theorem jd_L_law_708 : decode code 708 = .ok (.iload_n 3, 1) := by decide +kernel
theorem jd_L_law_709 : decode code 709 = .ok (.iconst 1, 1) := by decide +kernel
theorem jd_L_law_710 : decode code 710 = .ok (.iadd, 1) := by decide +kernel
theorem jd_L_law_711 : decode code 711 = .ok (.iaload, 1) := by decide +kernel
theorem jd_L_law_712 : decode code 712 = .ok (.aload_n 0, 1) := by decide +kernel
theorem jd_L_law_713 : decode code 713 = .ok (.iload_n 3, 1) := by decide +kernel
theorem jd_L_law_714 : decode code 714 = .ok (.iconst 2, 1) := by decide +kernel
theorem jd_L_law_715 : decode code 715 = .ok (.iadd, 1) := by decide +kernel
theorem jd_L_law_716 : decode code 716 = .ok (.iaload, 1) := by decide +kernel
theorem jd_L_law_717 : decode code 717 = .ok (.invokevirtual 89, 3) := by decide +kernel
theorem jd_L_law_720 : decode code 720 = .ok (.aload_n 2, 1) := by decide +kernel
theorem jd_L_law_721 : decode code 721 = .ok (.aload_n 0, 1) := by decide +kernel
theorem jd_L_law_722 : decode code 722 = .ok (.iload_n 3, 1) := by decide +kernel
theorem jd_L_law_723 : decode code 723 = .ok (.iconst 1, 1) := by decide +kernel
theorem jd_L_law_724 : decode code 724 = .ok (.iadd, 1) := by decide +kernel
theorem jd_L_law_725 : decode code 725 = .ok (.iaload, 1) := by decide +kernel
theorem jd_L_law_726 : decode code 726 = .ok (.aload_n 0, 1) := by decide +kernel
theorem jd_L_law_727 : decode code 727 = .ok (.iload_n 3, 1) := by decide +kernel
theorem jd_L_law_728 : decode code 728 = .ok (.iconst 2, 1) := by decide +kernel
theorem jd_L_law_729 : decode code 729 = .ok (.iadd, 1) := by decide +kernel
theorem jd_L_law_730 : decode code 730 = .ok (.iaload, 1) := by decide +kernel
theorem jd_L_law_731 : decode code 731 = .ok (.invokevirtual 92, 3) := by decide +kernel
theorem jd_L_law_734 : decode code 734 = .ok (.if_icmp .eq 496, 3) := by decide +kernel
theorem jd_L_law_737 : decode code 737 = .ok (.iconst 0, 1) := by decide +kernel
theorem jd_L_law_738 : decode code 738 = .ok (.ireturn, 1) := by decide +kernel
theorem jd_L_law_739 : decode code 739 = .ok (.aload_n 1, 1) := by decide +kernel
theorem jd_L_law_740 : decode code 740 = .ok (.aload_n 0, 1) := by decide +kernel
theorem jd_L_law_741 : decode code 741 = .ok (.iload_n 3, 1) := by decide +kernel
theorem jd_L_law_742 : decode code 742 = .ok (.iconst 1, 1) := by decide +kernel
theorem jd_L_law_743 : decode code 743 = .ok (.iadd, 1) := by decide +kernel
theorem jd_L_law_744 : decode code 744 = .ok (.iaload, 1) := by decide +kernel
theorem jd_L_law_745 : decode code 745 = .ok (.aload_n 0, 1) := by decide +kernel
theorem jd_L_law_746 : decode code 746 = .ok (.iload_n 3, 1) := by decide +kernel
theorem jd_L_law_747 : decode code 747 = .ok (.iconst 2, 1) := by decide +kernel
theorem jd_L_law_748 : decode code 748 = .ok (.iadd, 1) := by decide +kernel
theorem jd_L_law_749 : decode code 749 = .ok (.iaload, 1) := by decide +kernel
theorem jd_L_law_750 : decode code 750 = .ok (.invokevirtual 93, 3) := by decide +kernel
theorem jd_L_law_753 : decode code 753 = .ok (.aload_n 2, 1) := by decide +kernel
theorem jd_L_law_754 : decode code 754 = .ok (.aload_n 0, 1) := by decide +kernel
theorem jd_L_law_755 : decode code 755 = .ok (.iload_n 3, 1) := by decide +kernel
theorem jd_L_law_756 : decode code 756 = .ok (.iconst 1, 1) := by decide +kernel
theorem jd_L_law_757 : decode code 757 = .ok (.iadd, 1) := by decide +kernel
theorem jd_L_law_758 : decode code 758 = .ok (.iaload, 1) := by decide +kernel
theorem jd_L_law_759 : decode code 759 = .ok (.aload_n 0, 1) := by decide +kernel
theorem jd_L_law_760 : decode code 760 = .ok (.iload_n 3, 1) := by decide +kernel
theorem jd_L_law_761 : decode code 761 = .ok (.iconst 2, 1) := by decide +kernel
theorem jd_L_law_762 : decode code 762 = .ok (.iadd, 1) := by decide +kernel
theorem jd_L_law_763 : decode code 763 = .ok (.iaload, 1) := by decide +kernel
theorem jd_L_law_764 : decode code 764 = .ok (.invokevirtual 96, 3) := by decide +kernel
theorem jd_L_law_767 : decode code 767 = .ok (.if_icmp .eq 463, 3) := by decide +kernel
theorem jd_L_law_770 : decode code 770 = .ok (.iconst 0, 1) := by decide +kernel
theorem jd_L_law_771 : decode code 771 = .ok (.ireturn, 1) := by decide +kernel
theorem jd_L_law_772 : decode code 772 = .ok (.aload_n 1, 1) := by decide +kernel
theorem jd_L_law_773 : decode code 773 = .ok (.aload_n 0, 1) := by decide +kernel
theorem jd_L_law_774 : decode code 774 = .ok (.iload_n 3, 1) := by decide +kernel
theorem jd_L_law_775 : decode code 775 = .ok (.iconst 1, 1) := by decide +kernel
theorem jd_L_law_776 : decode code 776 = .ok (.iadd, 1) := by decide +kernel
theorem jd_L_law_777 : decode code 777 = .ok (.iaload, 1) := by decide +kernel
theorem jd_L_law_778 : decode code 778 = .ok (.invokevirtual 97, 3) := by decide +kernel
theorem jd_L_law_781 : decode code 781 = .ok (.aload_n 2, 1) := by decide +kernel
theorem jd_L_law_782 : decode code 782 = .ok (.aload_n 0, 1) := by decide +kernel
theorem jd_L_law_783 : decode code 783 = .ok (.iload_n 3, 1) := by decide +kernel
theorem jd_L_law_784 : decode code 784 = .ok (.iconst 1, 1) := by decide +kernel
theorem jd_L_law_785 : decode code 785 = .ok (.iadd, 1) := by decide +kernel
theorem jd_L_law_786 : decode code 786 = .ok (.iaload, 1) := by decide +kernel
theorem jd_L_law_787 : decode code 787 = .ok (.invokevirtual 100, 3) := by decide +kernel
theorem jd_L_law_790 : decode code 790 = .ok (.if_icmp .eq 440, 3) := by decide +kernel
theorem jd_L_law_793 : decode code 793 = .ok (.iconst 0, 1) := by decide +kernel
theorem jd_L_law_794 : decode code 794 = .ok (.ireturn, 1) := by decide +kernel
theorem jd_L_law_795 : decode code 795 = .ok (.aload_n 1, 1) := by decide +kernel
theorem jd_L_law_796 : decode code 796 = .ok (.aload_n 0, 1) := by decide +kernel
theorem jd_L_law_797 : decode code 797 = .ok (.iload_n 3, 1) := by decide +kernel
theorem jd_L_law_798 : decode code 798 = .ok (.iconst 1, 1) := by decide +kernel
theorem jd_L_law_799 : decode code 799 = .ok (.iadd, 1) := by decide +kernel
theorem jd_L_law_800 : decode code 800 = .ok (.iaload, 1) := by decide +kernel
theorem jd_L_law_801 : decode code 801 = .ok (.invokevirtual 101, 3) := by decide +kernel
theorem jd_L_law_804 : decode code 804 = .ok (.aload_n 2, 1) := by decide +kernel
theorem jd_L_law_805 : decode code 805 = .ok (.aload_n 0, 1) := by decide +kernel
theorem jd_L_law_806 : decode code 806 = .ok (.iload_n 3, 1) := by decide +kernel
theorem jd_L_law_807 : decode code 807 = .ok (.iconst 1, 1) := by decide +kernel
theorem jd_L_law_808 : decode code 808 = .ok (.iadd, 1) := by decide +kernel
theorem jd_L_law_809 : decode code 809 = .ok (.iaload, 1) := by decide +kernel
theorem jd_L_law_810 : decode code 810 = .ok (.invokevirtual 104, 3) := by decide +kernel
theorem jd_L_law_813 : decode code 813 = .ok (.if_icmp .eq 417, 3) := by decide +kernel
theorem jd_L_law_816 : decode code 816 = .ok (.iconst 0, 1) := by decide +kernel
theorem jd_L_law_817 : decode code 817 = .ok (.ireturn, 1) := by decide +kernel
theorem jd_L_law_818 : decode code 818 = .ok (.aload_n 1, 1) := by decide +kernel
theorem jd_L_law_819 : decode code 819 = .ok (.aload_n 0, 1) := by decide +kernel
theorem jd_L_law_820 : decode code 820 = .ok (.iload_n 3, 1) := by decide +kernel
theorem jd_L_law_821 : decode code 821 = .ok (.iconst 1, 1) := by decide +kernel
theorem jd_L_law_822 : decode code 822 = .ok (.iadd, 1) := by decide +kernel
theorem jd_L_law_823 : decode code 823 = .ok (.iaload, 1) := by decide +kernel
theorem jd_L_law_824 : decode code 824 = .ok (.invokevirtual 105, 3) := by decide +kernel
theorem jd_L_law_827 : decode code 827 = .ok (.aload_n 2, 1) := by decide +kernel
theorem jd_L_law_828 : decode code 828 = .ok (.aload_n 0, 1) := by decide +kernel
theorem jd_L_law_829 : decode code 829 = .ok (.iload_n 3, 1) := by decide +kernel
theorem jd_L_law_830 : decode code 830 = .ok (.iconst 1, 1) := by decide +kernel
theorem jd_L_law_831 : decode code 831 = .ok (.iadd, 1) := by decide +kernel
theorem jd_L_law_832 : decode code 832 = .ok (.iaload, 1) := by decide +kernel
theorem jd_L_law_833 : decode code 833 = .ok (.invokevirtual 108, 3) := by decide +kernel
theorem jd_L_law_836 : decode code 836 = .ok (.if_icmp .eq 394, 3) := by decide +kernel
theorem jd_L_law_839 : decode code 839 = .ok (.iconst 0, 1) := by decide +kernel
theorem jd_L_law_840 : decode code 840 = .ok (.ireturn, 1) := by decide +kernel
theorem jd_L_law_841 : decode code 841 = .ok (.aload_n 1, 1) := by decide +kernel
theorem jd_L_law_842 : decode code 842 = .ok (.aload_n 0, 1) := by decide +kernel
theorem jd_L_law_843 : decode code 843 = .ok (.iload_n 3, 1) := by decide +kernel
theorem jd_L_law_844 : decode code 844 = .ok (.iconst 1, 1) := by decide +kernel
theorem jd_L_law_845 : decode code 845 = .ok (.iadd, 1) := by decide +kernel
theorem jd_L_law_846 : decode code 846 = .ok (.iaload, 1) := by decide +kernel
theorem jd_L_law_847 : decode code 847 = .ok (.aload_n 0, 1) := by decide +kernel
theorem jd_L_law_848 : decode code 848 = .ok (.iload_n 3, 1) := by decide +kernel
theorem jd_L_law_849 : decode code 849 = .ok (.iconst 2, 1) := by decide +kernel
theorem jd_L_law_850 : decode code 850 = .ok (.iadd, 1) := by decide +kernel
theorem jd_L_law_851 : decode code 851 = .ok (.iaload, 1) := by decide +kernel
theorem jd_L_law_852 : decode code 852 = .ok (.invokevirtual 109, 3) := by decide +kernel
theorem jd_L_law_855 : decode code 855 = .ok (.aload_n 2, 1) := by decide +kernel
theorem jd_L_law_856 : decode code 856 = .ok (.aload_n 0, 1) := by decide +kernel
theorem jd_L_law_857 : decode code 857 = .ok (.iload_n 3, 1) := by decide +kernel
theorem jd_L_law_858 : decode code 858 = .ok (.iconst 1, 1) := by decide +kernel
theorem jd_L_law_859 : decode code 859 = .ok (.iadd, 1) := by decide +kernel
theorem jd_L_law_860 : decode code 860 = .ok (.iaload, 1) := by decide +kernel
theorem jd_L_law_861 : decode code 861 = .ok (.aload_n 0, 1) := by decide +kernel
theorem jd_L_law_862 : decode code 862 = .ok (.iload_n 3, 1) := by decide +kernel
theorem jd_L_law_863 : decode code 863 = .ok (.iconst 2, 1) := by decide +kernel
theorem jd_L_law_864 : decode code 864 = .ok (.iadd, 1) := by decide +kernel
theorem jd_L_law_865 : decode code 865 = .ok (.iaload, 1) := by decide +kernel
theorem jd_L_law_866 : decode code 866 = .ok (.invokevirtual 112, 3) := by decide +kernel
theorem jd_L_law_869 : decode code 869 = .ok (.if_icmp .eq 361, 3) := by decide +kernel
theorem jd_L_law_872 : decode code 872 = .ok (.iconst 0, 1) := by decide +kernel
theorem jd_L_law_873 : decode code 873 = .ok (.ireturn, 1) := by decide +kernel
theorem jd_L_law_874 : decode code 874 = .ok (.aload_n 1, 1) := by decide +kernel
theorem jd_L_law_875 : decode code 875 = .ok (.aload_n 0, 1) := by decide +kernel
theorem jd_L_law_876 : decode code 876 = .ok (.iload_n 3, 1) := by decide +kernel
theorem jd_L_law_877 : decode code 877 = .ok (.iconst 1, 1) := by decide +kernel
theorem jd_L_law_878 : decode code 878 = .ok (.iadd, 1) := by decide +kernel
theorem jd_L_law_879 : decode code 879 = .ok (.iaload, 1) := by decide +kernel
theorem jd_L_law_880 : decode code 880 = .ok (.aload_n 0, 1) := by decide +kernel
theorem jd_L_law_881 : decode code 881 = .ok (.iload_n 3, 1) := by decide +kernel
theorem jd_L_law_882 : decode code 882 = .ok (.iconst 2, 1) := by decide +kernel
theorem jd_L_law_883 : decode code 883 = .ok (.iadd, 1) := by decide +kernel
theorem jd_L_law_884 : decode code 884 = .ok (.iaload, 1) := by decide +kernel
theorem jd_L_law_885 : decode code 885 = .ok (.invokevirtual 113, 3) := by decide +kernel
theorem jd_L_law_888 : decode code 888 = .ok (.aload_n 2, 1) := by decide +kernel
theorem jd_L_law_889 : decode code 889 = .ok (.aload_n 0, 1) := by decide +kernel
theorem jd_L_law_890 : decode code 890 = .ok (.iload_n 3, 1) := by decide +kernel
theorem jd_L_law_891 : decode code 891 = .ok (.iconst 1, 1) := by decide +kernel
theorem jd_L_law_892 : decode code 892 = .ok (.iadd, 1) := by decide +kernel
theorem jd_L_law_893 : decode code 893 = .ok (.iaload, 1) := by decide +kernel
theorem jd_L_law_894 : decode code 894 = .ok (.aload_n 0, 1) := by decide +kernel
theorem jd_L_law_895 : decode code 895 = .ok (.iload_n 3, 1) := by decide +kernel
theorem jd_L_law_896 : decode code 896 = .ok (.iconst 2, 1) := by decide +kernel
theorem jd_L_law_897 : decode code 897 = .ok (.iadd, 1) := by decide +kernel
theorem jd_L_law_898 : decode code 898 = .ok (.iaload, 1) := by decide +kernel
theorem jd_L_law_899 : decode code 899 = .ok (.invokevirtual 116, 3) := by decide +kernel
theorem jd_L_law_902 : decode code 902 = .ok (.if_icmp .eq 328, 3) := by decide +kernel
theorem jd_L_law_905 : decode code 905 = .ok (.iconst 0, 1) := by decide +kernel
theorem jd_L_law_906 : decode code 906 = .ok (.ireturn, 1) := by decide +kernel
theorem jd_L_law_907 : decode code 907 = .ok (.aload_n 1, 1) := by decide +kernel
theorem jd_L_law_908 : decode code 908 = .ok (.aload_n 0, 1) := by decide +kernel
theorem jd_L_law_909 : decode code 909 = .ok (.iload_n 3, 1) := by decide +kernel
theorem jd_L_law_910 : decode code 910 = .ok (.iconst 1, 1) := by decide +kernel
theorem jd_L_law_911 : decode code 911 = .ok (.iadd, 1) := by decide +kernel
theorem jd_L_law_912 : decode code 912 = .ok (.iaload, 1) := by decide +kernel
theorem jd_L_law_913 : decode code 913 = .ok (.aload_n 0, 1) := by decide +kernel
theorem jd_L_law_914 : decode code 914 = .ok (.iload_n 3, 1) := by decide +kernel
theorem jd_L_law_915 : decode code 915 = .ok (.iconst 2, 1) := by decide +kernel
theorem jd_L_law_916 : decode code 916 = .ok (.iadd, 1) := by decide +kernel
theorem jd_L_law_917 : decode code 917 = .ok (.iaload, 1) := by decide +kernel
theorem jd_L_law_918 : decode code 918 = .ok (.invokevirtual 117, 3) := by decide +kernel
theorem jd_L_law_921 : decode code 921 = .ok (.aload_n 2, 1) := by decide +kernel
theorem jd_L_law_922 : decode code 922 = .ok (.aload_n 0, 1) := by decide +kernel
theorem jd_L_law_923 : decode code 923 = .ok (.iload_n 3, 1) := by decide +kernel
theorem jd_L_law_924 : decode code 924 = .ok (.iconst 1, 1) := by decide +kernel
theorem jd_L_law_925 : decode code 925 = .ok (.iadd, 1) := by decide +kernel
theorem jd_L_law_926 : decode code 926 = .ok (.iaload, 1) := by decide +kernel
theorem jd_L_law_927 : decode code 927 = .ok (.aload_n 0, 1) := by decide +kernel
theorem jd_L_law_928 : decode code 928 = .ok (.iload_n 3, 1) := by decide +kernel
theorem jd_L_law_929 : decode code 929 = .ok (.iconst 2, 1) := by decide +kernel
theorem jd_L_law_930 : decode code 930 = .ok (.iadd, 1) := by decide +kernel
theorem jd_L_law_931 : decode code 931 = .ok (.iaload, 1) := by decide +kernel
theorem jd_L_law_932 : decode code 932 = .ok (.invokevirtual 120, 3) := by decide +kernel
theorem jd_L_law_935 : decode code 935 = .ok (.if_icmp .eq 295, 3) := by decide +kernel
theorem jd_L_law_938 : decode code 938 = .ok (.iconst 0, 1) := by decide +kernel
theorem jd_L_law_939 : decode code 939 = .ok (.ireturn, 1) := by decide +kernel
theorem jd_L_law_940 : decode code 940 = .ok (.aload_n 1, 1) := by decide +kernel
theorem jd_L_law_941 : decode code 941 = .ok (.aload_n 0, 1) := by decide +kernel
theorem jd_L_law_942 : decode code 942 = .ok (.iload_n 3, 1) := by decide +kernel
theorem jd_L_law_943 : decode code 943 = .ok (.iconst 1, 1) := by decide +kernel
theorem jd_L_law_944 : decode code 944 = .ok (.iadd, 1) := by decide +kernel
theorem jd_L_law_945 : decode code 945 = .ok (.iaload, 1) := by decide +kernel
theorem jd_L_law_946 : decode code 946 = .ok (.aload_n 0, 1) := by decide +kernel
theorem jd_L_law_947 : decode code 947 = .ok (.iload_n 3, 1) := by decide +kernel
theorem jd_L_law_948 : decode code 948 = .ok (.iconst 2, 1) := by decide +kernel
theorem jd_L_law_949 : decode code 949 = .ok (.iadd, 1) := by decide +kernel
theorem jd_L_law_950 : decode code 950 = .ok (.iaload, 1) := by decide +kernel
theorem jd_L_law_951 : decode code 951 = .ok (.invokevirtual 121, 3) := by decide +kernel
theorem jd_L_law_954 : decode code 954 = .ok (.aload_n 2, 1) := by decide +kernel
theorem jd_L_law_955 : decode code 955 = .ok (.aload_n 0, 1) := by decide +kernel
theorem jd_L_law_956 : decode code 956 = .ok (.iload_n 3, 1) := by decide +kernel
theorem jd_L_law_957 : decode code 957 = .ok (.iconst 1, 1) := by decide +kernel
theorem jd_L_law_958 : decode code 958 = .ok (.iadd, 1) := by decide +kernel
theorem jd_L_law_959 : decode code 959 = .ok (.iaload, 1) := by decide +kernel
theorem jd_L_law_960 : decode code 960 = .ok (.aload_n 0, 1) := by decide +kernel
theorem jd_L_law_961 : decode code 961 = .ok (.iload_n 3, 1) := by decide +kernel
theorem jd_L_law_962 : decode code 962 = .ok (.iconst 2, 1) := by decide +kernel
theorem jd_L_law_963 : decode code 963 = .ok (.iadd, 1) := by decide +kernel
theorem jd_L_law_964 : decode code 964 = .ok (.iaload, 1) := by decide +kernel
theorem jd_L_law_965 : decode code 965 = .ok (.invokevirtual 124, 3) := by decide +kernel
theorem jd_L_law_968 : decode code 968 = .ok (.if_icmp .eq 262, 3) := by decide +kernel
theorem jd_L_law_971 : decode code 971 = .ok (.iconst 0, 1) := by decide +kernel
theorem jd_L_law_972 : decode code 972 = .ok (.ireturn, 1) := by decide +kernel
theorem jd_L_law_973 : decode code 973 = .ok (.aload_n 1, 1) := by decide +kernel
theorem jd_L_law_974 : decode code 974 = .ok (.aload_n 0, 1) := by decide +kernel
theorem jd_L_law_975 : decode code 975 = .ok (.iload_n 3, 1) := by decide +kernel
theorem jd_L_law_976 : decode code 976 = .ok (.iconst 1, 1) := by decide +kernel
theorem jd_L_law_977 : decode code 977 = .ok (.iadd, 1) := by decide +kernel
theorem jd_L_law_978 : decode code 978 = .ok (.iaload, 1) := by decide +kernel
theorem jd_L_law_979 : decode code 979 = .ok (.aload_n 0, 1) := by decide +kernel
theorem jd_L_law_980 : decode code 980 = .ok (.iload_n 3, 1) := by decide +kernel
theorem jd_L_law_981 : decode code 981 = .ok (.iconst 2, 1) := by decide +kernel
theorem jd_L_law_982 : decode code 982 = .ok (.iadd, 1) := by decide +kernel
theorem jd_L_law_983 : decode code 983 = .ok (.iaload, 1) := by decide +kernel
theorem jd_L_law_984 : decode code 984 = .ok (.aload_n 0, 1) := by decide +kernel
theorem jd_L_law_985 : decode code 985 = .ok (.iload_n 3, 1) := by decide +kernel
theorem jd_L_law_986 : decode code 986 = .ok (.iconst 3, 1) := by decide +kernel
theorem jd_L_law_987 : decode code 987 = .ok (.iadd, 1) := by decide +kernel
theorem jd_L_law_988 : decode code 988 = .ok (.iaload, 1) := by decide +kernel
theorem jd_L_law_989 : decode code 989 = .ok (.invokevirtual 125, 3) := by decide +kernel
theorem jd_L_law_992 : decode code 992 = .ok (.aload_n 2, 1) := by decide +kernel
theorem jd_L_law_993 : decode code 993 = .ok (.aload_n 0, 1) := by decide +kernel
theorem jd_L_law_994 : decode code 994 = .ok (.iload_n 3, 1) := by decide +kernel
theorem jd_L_law_995 : decode code 995 = .ok (.iconst 1, 1) := by decide +kernel
theorem jd_L_law_996 : decode code 996 = .ok (.iadd, 1) := by decide +kernel
theorem jd_L_law_997 : decode code 997 = .ok (.iaload, 1) := by decide +kernel
theorem jd_L_law_998 : decode code 998 = .ok (.aload_n 0, 1) := by decide +kernel
theorem jd_L_law_999 : decode code 999 = .ok (.iload_n 3, 1) := by decide +kernel
theorem jd_L_law_1000 : decode code 1000 = .ok (.iconst 2, 1) := by decide +kernel
theorem jd_L_law_1001 : decode code 1001 = .ok (.iadd, 1) := by decide +kernel
theorem jd_L_law_1002 : decode code 1002 = .ok (.iaload, 1) := by decide +kernel
theorem jd_L_law_1003 : decode code 1003 = .ok (.aload_n 0, 1) := by decide +kernel
theorem jd_L_law_1004 : decode code 1004 = .ok (.iload_n 3, 1) := by decide +kernel
theorem jd_L_law_1005 : decode code 1005 = .ok (.iconst 3, 1) := by decide +kernel
theorem jd_L_law_1006 : decode code 1006 = .ok (.iadd, 1) := by decide +kernel
theorem jd_L_law_1007 : decode code 1007 = .ok (.iaload, 1) := by decide +kernel
theorem jd_L_law_1008 : decode code 1008 = .ok (.invokevirtual 128, 3) := by decide +kernel
theorem jd_L_law_1011 : decode code 1011 = .ok (.if_icmp .eq 219, 3) := by decide +kernel
theorem jd_L_law_1014 : decode code 1014 = .ok (.iconst 0, 1) := by decide +kernel
theorem jd_L_law_1015 : decode code 1015 = .ok (.ireturn, 1) := by decide +kernel
theorem jd_L_law_1016 : decode code 1016 = .ok (.aload_n 1, 1) := by decide +kernel
theorem jd_L_law_1017 : decode code 1017 = .ok (.aload_n 0, 1) := by decide +kernel
theorem jd_L_law_1018 : decode code 1018 = .ok (.iload_n 3, 1) := by decide +kernel
theorem jd_L_law_1019 : decode code 1019 = .ok (.iconst 1, 1) := by decide +kernel
theorem jd_L_law_1020 : decode code 1020 = .ok (.iadd, 1) := by decide +kernel
theorem jd_L_law_1021 : decode code 1021 = .ok (.iaload, 1) := by decide +kernel
theorem jd_L_law_1022 : decode code 1022 = .ok (.aload_n 0, 1) := by decide +kernel
theorem jd_L_law_1023 : decode code 1023 = .ok (.iload_n 3, 1) := by decide +kernel
theorem jd_L_law_1024 : decode code 1024 = .ok (.iconst 2, 1) := by decide +kernel
theorem jd_L_law_1025 : decode code 1025 = .ok (.iadd, 1) := by decide +kernel
theorem jd_L_law_1026 : decode code 1026 = .ok (.iaload, 1) := by decide +kernel
theorem jd_L_law_1027 : decode code 1027 = .ok (.aload_n 0, 1) := by decide +kernel
theorem jd_L_law_1028 : decode code 1028 = .ok (.iload_n 3, 1) := by decide +kernel
theorem jd_L_law_1029 : decode code 1029 = .ok (.iconst 3, 1) := by decide +kernel
theorem jd_L_law_1030 : decode code 1030 = .ok (.iadd, 1) := by decide +kernel
theorem jd_L_law_1031 : decode code 1031 = .ok (.iaload, 1) := by decide +kernel
theorem jd_L_law_1032 : decode code 1032 = .ok (.invokevirtual 129, 3) := by decide +kernel
theorem jd_L_law_1035 : decode code 1035 = .ok (.aload_n 2, 1) := by decide +kernel
theorem jd_L_law_1036 : decode code 1036 = .ok (.aload_n 0, 1) := by decide +kernel
theorem jd_L_law_1037 : decode code 1037 = .ok (.iload_n 3, 1) := by decide +kernel
theorem jd_L_law_1038 : decode code 1038 = .ok (.iconst 1, 1) := by decide +kernel
theorem jd_L_law_1039 : decode code 1039 = .ok (.iadd, 1) := by decide +kernel
theorem jd_L_law_1040 : decode code 1040 = .ok (.iaload, 1) := by decide +kernel
theorem jd_L_law_1041 : decode code 1041 = .ok (.aload_n 0, 1) := by decide +kernel
theorem jd_L_law_1042 : decode code 1042 = .ok (.iload_n 3, 1) := by decide +kernel
theorem jd_L_law_1043 : decode code 1043 = .ok (.iconst 2, 1) := by decide +kernel
theorem jd_L_law_1044 : decode code 1044 = .ok (.iadd, 1) := by decide +kernel
theorem jd_L_law_1045 : decode code 1045 = .ok (.iaload, 1) := by decide +kernel
theorem jd_L_law_1046 : decode code 1046 = .ok (.aload_n 0, 1) := by decide +kernel
theorem jd_L_law_1047 : decode code 1047 = .ok (.iload_n 3, 1) := by decide +kernel
theorem jd_L_law_1048 : decode code 1048 = .ok (.iconst 3, 1) := by decide +kernel
theorem jd_L_law_1049 : decode code 1049 = .ok (.iadd, 1) := by decide +kernel
theorem jd_L_law_1050 : decode code 1050 = .ok (.iaload, 1) := by decide +kernel
theorem jd_L_law_1051 : decode code 1051 = .ok (.invokevirtual 132, 3) := by decide +kernel
theorem jd_L_law_1054 : decode code 1054 = .ok (.if_icmp .eq 176, 3) := by decide +kernel
theorem jd_L_law_1057 : decode code 1057 = .ok (.iconst 0, 1) := by decide +kernel
theorem jd_L_law_1058 : decode code 1058 = .ok (.ireturn, 1) := by decide +kernel
theorem jd_L_law_1059 : decode code 1059 = .ok (.aload_n 1, 1) := by decide +kernel
theorem jd_L_law_1060 : decode code 1060 = .ok (.invokevirtual 133, 3) := by decide +kernel
theorem jd_L_law_1063 : decode code 1063 = .ok (.aload_n 2, 1) := by decide +kernel
theorem jd_L_law_1064 : decode code 1064 = .ok (.invokevirtual 136, 3) := by decide +kernel
theorem jd_L_law_1067 : decode code 1067 = .ok (.if_icmp .eq 163, 3) := by decide +kernel
theorem jd_L_law_1070 : decode code 1070 = .ok (.iconst 0, 1) := by decide +kernel
theorem jd_L_law_1071 : decode code 1071 = .ok (.ireturn, 1) := by decide +kernel
theorem jd_L_law_1072 : decode code 1072 = .ok (.aload_n 1, 1) := by decide +kernel
theorem jd_L_law_1073 : decode code 1073 = .ok (.aload_n 0, 1) := by decide +kernel
theorem jd_L_law_1074 : decode code 1074 = .ok (.iload_n 3, 1) := by decide +kernel
theorem jd_L_law_1075 : decode code 1075 = .ok (.iconst 1, 1) := by decide +kernel
theorem jd_L_law_1076 : decode code 1076 = .ok (.iadd, 1) := by decide +kernel
theorem jd_L_law_1077 : decode code 1077 = .ok (.iaload, 1) := by decide +kernel
theorem jd_L_law_1078 : decode code 1078 = .ok (.aload_n 0, 1) := by decide +kernel
theorem jd_L_law_1079 : decode code 1079 = .ok (.iload_n 3, 1) := by decide +kernel
theorem jd_L_law_1080 : decode code 1080 = .ok (.iconst 2, 1) := by decide +kernel
theorem jd_L_law_1081 : decode code 1081 = .ok (.iadd, 1) := by decide +kernel
theorem jd_L_law_1082 : decode code 1082 = .ok (.iaload, 1) := by decide +kernel
theorem jd_L_law_1083 : decode code 1083 = .ok (.invokevirtual 137, 3) := by decide +kernel
theorem jd_L_law_1086 : decode code 1086 = .ok (.aload_n 2, 1) := by decide +kernel
theorem jd_L_law_1087 : decode code 1087 = .ok (.aload_n 0, 1) := by decide +kernel
theorem jd_L_law_1088 : decode code 1088 = .ok (.iload_n 3, 1) := by decide +kernel
theorem jd_L_law_1089 : decode code 1089 = .ok (.iconst 1, 1) := by decide +kernel
theorem jd_L_law_1090 : decode code 1090 = .ok (.iadd, 1) := by decide +kernel
theorem jd_L_law_1091 : decode code 1091 = .ok (.iaload, 1) := by decide +kernel
theorem jd_L_law_1092 : decode code 1092 = .ok (.aload_n 0, 1) := by decide +kernel
theorem jd_L_law_1093 : decode code 1093 = .ok (.iload_n 3, 1) := by decide +kernel
theorem jd_L_law_1094 : decode code 1094 = .ok (.iconst 2, 1) := by decide +kernel
theorem jd_L_law_1095 : decode code 1095 = .ok (.iadd, 1) := by decide +kernel
theorem jd_L_law_1096 : decode code 1096 = .ok (.iaload, 1) := by decide +kernel
theorem jd_L_law_1097 : decode code 1097 = .ok (.invokevirtual 140, 3) := by decide +kernel
theorem jd_L_law_1100 : decode code 1100 = .ok (.if_icmp .eq 130, 3) := by decide +kernel
theorem jd_L_law_1103 : decode code 1103 = .ok (.iconst 0, 1) := by decide +kernel
theorem jd_L_law_1104 : decode code 1104 = .ok (.ireturn, 1) := by decide +kernel
theorem jd_L_law_1105 : decode code 1105 = .ok (.aload_n 1, 1) := by decide +kernel
theorem jd_L_law_1106 : decode code 1106 = .ok (.aload_n 0, 1) := by decide +kernel
theorem jd_L_law_1107 : decode code 1107 = .ok (.iload_n 3, 1) := by decide +kernel
theorem jd_L_law_1108 : decode code 1108 = .ok (.iconst 1, 1) := by decide +kernel
theorem jd_L_law_1109 : decode code 1109 = .ok (.iadd, 1) := by decide +kernel
theorem jd_L_law_1110 : decode code 1110 = .ok (.iaload, 1) := by decide +kernel
theorem jd_L_law_1111 : decode code 1111 = .ok (.invokevirtual 141, 3) := by decide +kernel
theorem jd_L_law_1114 : decode code 1114 = .ok (.aload_n 2, 1) := by decide +kernel
theorem jd_L_law_1115 : decode code 1115 = .ok (.aload_n 0, 1) := by decide +kernel
theorem jd_L_law_1116 : decode code 1116 = .ok (.iload_n 3, 1) := by decide +kernel
theorem jd_L_law_1117 : decode code 1117 = .ok (.iconst 1, 1) := by decide +kernel
theorem jd_L_law_1118 : decode code 1118 = .ok (.iadd, 1) := by decide +kernel
theorem jd_L_law_1119 : decode code 1119 = .ok (.iaload, 1) := by decide +kernel
theorem jd_L_law_1120 : decode code 1120 = .ok (.invokevirtual 144, 3) := by decide +kernel
theorem jd_L_law_1123 : decode code 1123 = .ok (.if_icmp .eq 107, 3) := by decide +kernel
theorem jd_L_law_1126 : decode code 1126 = .ok (.iconst 0, 1) := by decide +kernel
theorem jd_L_law_1127 : decode code 1127 = .ok (.ireturn, 1) := by decide +kernel
theorem jd_L_law_1128 : decode code 1128 = .ok (.aload_n 1, 1) := by decide +kernel
theorem jd_L_law_1129 : decode code 1129 = .ok (.aload_n 0, 1) := by decide +kernel
theorem jd_L_law_1130 : decode code 1130 = .ok (.iload_n 3, 1) := by decide +kernel
theorem jd_L_law_1131 : decode code 1131 = .ok (.iconst 1, 1) := by decide +kernel
theorem jd_L_law_1132 : decode code 1132 = .ok (.iadd, 1) := by decide +kernel
theorem jd_L_law_1133 : decode code 1133 = .ok (.iaload, 1) := by decide +kernel
theorem jd_L_law_1134 : decode code 1134 = .ok (.aload_n 0, 1) := by decide +kernel
theorem jd_L_law_1135 : decode code 1135 = .ok (.iload_n 3, 1) := by decide +kernel
theorem jd_L_law_1136 : decode code 1136 = .ok (.iconst 2, 1) := by decide +kernel
theorem jd_L_law_1137 : decode code 1137 = .ok (.iadd, 1) := by decide +kernel
theorem jd_L_law_1138 : decode code 1138 = .ok (.iaload, 1) := by decide +kernel
theorem jd_L_law_1139 : decode code 1139 = .ok (.invokevirtual 145, 3) := by decide +kernel
theorem jd_L_law_1142 : decode code 1142 = .ok (.aload_n 2, 1) := by decide +kernel
theorem jd_L_law_1143 : decode code 1143 = .ok (.aload_n 0, 1) := by decide +kernel
theorem jd_L_law_1144 : decode code 1144 = .ok (.iload_n 3, 1) := by decide +kernel
theorem jd_L_law_1145 : decode code 1145 = .ok (.iconst 1, 1) := by decide +kernel
theorem jd_L_law_1146 : decode code 1146 = .ok (.iadd, 1) := by decide +kernel
theorem jd_L_law_1147 : decode code 1147 = .ok (.iaload, 1) := by decide +kernel
theorem jd_L_law_1148 : decode code 1148 = .ok (.aload_n 0, 1) := by decide +kernel
theorem jd_L_law_1149 : decode code 1149 = .ok (.iload_n 3, 1) := by decide +kernel
theorem jd_L_law_1150 : decode code 1150 = .ok (.iconst 2, 1) := by decide +kernel
theorem jd_L_law_1151 : decode code 1151 = .ok (.iadd, 1) := by decide +kernel
theorem jd_L_law_1152 : decode code 1152 = .ok (.iaload, 1) := by decide +kernel
theorem jd_L_law_1153 : decode code 1153 = .ok (.invokevirtual 148, 3) := by decide +kernel
theorem jd_L_law_1156 : decode code 1156 = .ok (.if_icmp .eq 74, 3) := by decide +kernel
theorem jd_L_law_1159 : decode code 1159 = .ok (.iconst 0, 1) := by decide +kernel
theorem jd_L_law_1160 : decode code 1160 = .ok (.ireturn, 1) := by decide +kernel
theorem jd_L_law_1161 : decode code 1161 = .ok (.aload_n 1, 1) := by decide +kernel
theorem jd_L_law_1162 : decode code 1162 = .ok (.aload_n 0, 1) := by decide +kernel
theorem jd_L_law_1163 : decode code 1163 = .ok (.iload_n 3, 1) := by decide +kernel
theorem jd_L_law_1164 : decode code 1164 = .ok (.iconst 1, 1) := by decide +kernel
theorem jd_L_law_1165 : decode code 1165 = .ok (.iadd, 1) := by decide +kernel
theorem jd_L_law_1166 : decode code 1166 = .ok (.iaload, 1) := by decide +kernel
theorem jd_L_law_1167 : decode code 1167 = .ok (.invokevirtual 149, 3) := by decide +kernel
theorem jd_L_law_1170 : decode code 1170 = .ok (.aload_n 2, 1) := by decide +kernel
theorem jd_L_law_1171 : decode code 1171 = .ok (.aload_n 0, 1) := by decide +kernel
theorem jd_L_law_1172 : decode code 1172 = .ok (.iload_n 3, 1) := by decide +kernel
theorem jd_L_law_1173 : decode code 1173 = .ok (.iconst 1, 1) := by decide +kernel
theorem jd_L_law_1174 : decode code 1174 = .ok (.iadd, 1) := by decide +kernel
theorem jd_L_law_1175 : decode code 1175 = .ok (.iaload, 1) := by decide +kernel
theorem jd_L_law_1176 : decode code 1176 = .ok (.invokevirtual 152, 3) := by decide +kernel
theorem jd_L_law_1179 : decode code 1179 = .ok (.if_icmp .eq 51, 3) := by decide +kernel
theorem jd_L_law_1182 : decode code 1182 = .ok (.iconst 0, 1) := by decide +kernel
theorem jd_L_law_1183 : decode code 1183 = .ok (.ireturn, 1) := by decide +kernel
theorem jd_L_law_1184 : decode code 1184 = .ok (.aload_n 1, 1) := by decide +kernel
theorem jd_L_law_1185 : decode code 1185 = .ok (.aload_n 0, 1) := by decide +kernel
theorem jd_L_law_1186 : decode code 1186 = .ok (.iload_n 3, 1) := by decide +kernel
theorem jd_L_law_1187 : decode code 1187 = .ok (.iconst 1, 1) := by decide +kernel
theorem jd_L_law_1188 : decode code 1188 = .ok (.iadd, 1) := by decide +kernel
theorem jd_L_law_1189 : decode code 1189 = .ok (.iaload, 1) := by decide +kernel
theorem jd_L_law_1190 : decode code 1190 = .ok (.invokevirtual 153, 3) := by decide +kernel
theorem jd_L_law_1193 : decode code 1193 = .ok (.aload_n 2, 1) := by decide +kernel
theorem jd_L_law_1194 : decode code 1194 = .ok (.aload_n 0, 1) := by decide +kernel
theorem jd_L_law_1195 : decode code 1195 = .ok (.iload_n 3, 1) := by decide +kernel
theorem jd_L_law_1196 : decode code 1196 = .ok (.iconst 1, 1) := by decide +kernel
theorem jd_L_law_1197 : decode code 1197 = .ok (.iadd, 1) := by decide +kernel
theorem jd_L_law_1198 : decode code 1198 = .ok (.iaload, 1) := by decide +kernel
theorem jd_L_law_1199 : decode code 1199 = .ok (.invokevirtual 156, 3) := by decide +kernel
theorem jd_L_law_1202 : decode code 1202 = .ok (.if_icmp .eq 28, 3) := by decide +kernel
theorem jd_L_law_1205 : decode code 1205 = .ok (.iconst 0, 1) := by decide +kernel
theorem jd_L_law_1206 : decode code 1206 = .ok (.ireturn, 1) := by decide +kernel
theorem jd_L_law_1207 : decode code 1207 = .ok (.aload_n 1, 1) := by decide +kernel
theorem jd_L_law_1208 : decode code 1208 = .ok (.aload_n 0, 1) := by decide +kernel
theorem jd_L_law_1209 : decode code 1209 = .ok (.iload_n 3, 1) := by decide +kernel
theorem jd_L_law_1210 : decode code 1210 = .ok (.iconst 1, 1) := by decide +kernel
theorem jd_L_law_1211 : decode code 1211 = .ok (.iadd, 1) := by decide +kernel
theorem jd_L_law_1212 : decode code 1212 = .ok (.iaload, 1) := by decide +kernel
theorem jd_L_law_1213 : decode code 1213 = .ok (.invokevirtual 157, 3) := by decide +kernel
theorem jd_L_law_1216 : decode code 1216 = .ok (.aload_n 2, 1) := by decide +kernel
theorem jd_L_law_1217 : decode code 1217 = .ok (.aload_n 0, 1) := by decide +kernel
theorem jd_L_law_1218 : decode code 1218 = .ok (.iload_n 3, 1) := by decide +kernel
theorem jd_L_law_1219 : decode code 1219 = .ok (.iconst 1, 1) := by decide +kernel
theorem jd_L_law_1220 : decode code 1220 = .ok (.iadd, 1) := by decide +kernel
theorem jd_L_law_1221 : decode code 1221 = .ok (.iaload, 1) := by decide +kernel
theorem jd_L_law_1222 : decode code 1222 = .ok (.invokevirtual 160, 3) := by decide +kernel
theorem jd_L_law_1225 : decode code 1225 = .ok (.if_icmp .eq 5, 3) := by decide +kernel
theorem jd_L_law_1228 : decode code 1228 = .ok (.iconst 0, 1) := by decide +kernel
theorem jd_L_law_1229 : decode code 1229 = .ok (.ireturn, 1) := by decide +kernel
theorem jd_L_law_1230 : decode code 1230 = .ok (.iinc 3 4, 3) := by decide +kernel
theorem jd_L_law_1233 : decode code 1233 = .ok (.goto (-1215), 3) := by decide +kernel
theorem jd_L_law_1236 : decode code 1236 = .ok (.iconst 1, 1) := by decide +kernel
theorem jd_L_law_1237 : decode code 1237 = .ok (.ireturn, 1) := by decide +kernel
def f_L_law_1230 (F : Nat) (L : Nat) (xs : Nat → Int32) (kb18 : Int32 → j_M → Option (Int32 × j_M)) (x3 : Int32) (I : j_M) : Option (Int32 × j_M) := j_let (x3 + 4) (fun v1 => kb18 v1 I)
def f_L_law_18b (F : Nat) (L : Nat) (xs : Nat → Int32) (kb18 : Int32 → j_M → Option (Int32 × j_M)) (x3 : Int32) (I : j_M) : Option (Int32 × j_M) := (if ((nI L) - 4) < x3 then some (1, I) else (if j_ok x3 L = true then j_let ((xs (j_ix x3)) &&& 63) (fun v2 => (if v2 = 0 then (if j_ok (x3 + 1) L = true then (if j_ok (x3 + 2) L = true then j_bd (f_G_place F (xs (j_ix (x3 + 1))) (xs (j_ix (x3 + 2))) I) (fun v4 I5 => (if j_ok (x3 + 1) L = true then (if j_ok (x3 + 2) L = true then j_bd (f_M_place F (xs (j_ix (x3 + 1))) (xs (j_ix (x3 + 2))) I5) (fun v6 I7 => (if v4 = v6 then f_L_law_1230 F L xs kb18 x3 I7 else some (0, I7))) else none) else none)) else none) else none) else (if v2 = 1 then (if j_ok (x3 + 1) L = true then (if j_ok (x3 + 2) L = true then (if j_ok (x3 + 3) L = true then j_bd (f_G_walk F (xs (j_ix (x3 + 1))) (xs (j_ix (x3 + 2))) (xs (j_ix (x3 + 3))) I) (fun v9 I10 => (if j_ok (x3 + 1) L = true then (if j_ok (x3 + 2) L = true then (if j_ok (x3 + 3) L = true then j_bd (f_M_walk F (xs (j_ix (x3 + 1))) (xs (j_ix (x3 + 2))) (xs (j_ix (x3 + 3))) I10) (fun v11 I12 => (if v9 = v11 then f_L_law_1230 F L xs kb18 x3 I12 else some (0, I12))) else none) else none) else none)) else none) else none) else none) else (if v2 = 2 then (if j_ok (x3 + 1) L = true then (if j_ok (x3 + 2) L = true then j_bd (f_G_way F (xs (j_ix (x3 + 1))) (xs (j_ix (x3 + 2))) I) (fun v14 I15 => (if j_ok (x3 + 1) L = true then (if j_ok (x3 + 2) L = true then j_bd (f_M_way F (xs (j_ix (x3 + 1))) (xs (j_ix (x3 + 2))) I15) (fun v16 I17 => (if v14 = v16 then f_L_law_1230 F L xs kb18 x3 I17 else some (0, I17))) else none) else none)) else none) else none) else (if v2 = 3 then (if j_ok (x3 + 1) L = true then (if j_ok (x3 + 2) L = true then j_bd (f_G_rain F (xs (j_ix (x3 + 1))) (xs (j_ix (x3 + 2))) I) (fun v19 I20 => (if j_ok (x3 + 1) L = true then (if j_ok (x3 + 2) L = true then j_bd (f_M_rain F (xs (j_ix (x3 + 1))) (xs (j_ix (x3 + 2))) I20) (fun v21 I22 => (if v19 = v21 then f_L_law_1230 F L xs kb18 x3 I22 else some (0, I22))) else none) else none)) else none) else none) else (if v2 = 4 then (if j_ok (x3 + 1) L = true then (if j_ok (x3 + 2) L = true then j_bd (f_G_sell F (xs (j_ix (x3 + 1))) (xs (j_ix (x3 + 2))) I) (fun v24 I25 => (if j_ok (x3 + 1) L = true then (if j_ok (x3 + 2) L = true then j_bd (f_M_sell F (xs (j_ix (x3 + 1))) (xs (j_ix (x3 + 2))) I25) (fun v26 I27 => (if v24 = v26 then f_L_law_1230 F L xs kb18 x3 I27 else some (0, I27))) else none) else none)) else none) else none) else (if v2 = 5 then (if j_ok (x3 + 1) L = true then (if j_ok (x3 + 2) L = true then j_bd (f_G_enter F (xs (j_ix (x3 + 1))) (xs (j_ix (x3 + 2))) I) (fun v29 I30 => (if j_ok (x3 + 1) L = true then (if j_ok (x3 + 2) L = true then j_bd (f_M_enter F (xs (j_ix (x3 + 1))) (xs (j_ix (x3 + 2))) I30) (fun v31 I32 => (if v29 = v31 then f_L_law_1230 F L xs kb18 x3 I32 else some (0, I32))) else none) else none)) else none) else none) else (if v2 = 6 then (if j_ok (x3 + 1) L = true then (if j_ok (x3 + 2) L = true then j_bd (f_G_go F (xs (j_ix (x3 + 1))) (xs (j_ix (x3 + 2))) I) (fun v34 I35 => (if j_ok (x3 + 1) L = true then (if j_ok (x3 + 2) L = true then j_bd (f_M_go F (xs (j_ix (x3 + 1))) (xs (j_ix (x3 + 2))) I35) (fun v36 I37 => (if v34 = v36 then f_L_law_1230 F L xs kb18 x3 I37 else some (0, I37))) else none) else none)) else none) else none) else (if v2 = 7 then (if j_ok (x3 + 1) L = true then j_bd (f_G_leave F (xs (j_ix (x3 + 1))) I) (fun v39 I40 => (if j_ok (x3 + 1) L = true then j_bd (f_M_leave F (xs (j_ix (x3 + 1))) I40) (fun v41 I42 => (if v39 = v41 then f_L_law_1230 F L xs kb18 x3 I42 else some (0, I42))) else none)) else none) else (if v2 = 8 then (if j_ok (x3 + 1) L = true then (if j_ok (x3 + 2) L = true then j_bd (f_G_party F (xs (j_ix (x3 + 1))) (xs (j_ix (x3 + 2))) I) (fun v44 I45 => (if j_ok (x3 + 1) L = true then (if j_ok (x3 + 2) L = true then j_bd (f_M_party F (xs (j_ix (x3 + 1))) (xs (j_ix (x3 + 2))) I45) (fun v46 I47 => (if v44 = v46 then f_L_law_1230 F L xs kb18 x3 I47 else some (0, I47))) else none) else none)) else none) else none) else (if v2 = 9 then (if j_ok (x3 + 1) L = true then j_bd (f_G_heads F (xs (j_ix (x3 + 1))) I) (fun v49 I50 => (if j_ok (x3 + 1) L = true then j_bd (f_M_heads F (xs (j_ix (x3 + 1))) I50) (fun v51 I52 => (if v49 = v51 then f_L_law_1230 F L xs kb18 x3 I52 else some (0, I52))) else none)) else none) else (if v2 = 10 then (if j_ok (x3 + 1) L = true then j_bd (f_G_minutes F (xs (j_ix (x3 + 1))) I) (fun v54 I55 => (if j_ok (x3 + 1) L = true then j_bd (f_M_minutes F (xs (j_ix (x3 + 1))) I55) (fun v56 I57 => (if v54 = v56 then f_L_law_1230 F L xs kb18 x3 I57 else some (0, I57))) else none)) else none) else (if v2 = 11 then (if j_ok (x3 + 1) L = true then j_bd (f_G_lamp F (xs (j_ix (x3 + 1))) I) (fun v59 I60 => (if j_ok (x3 + 1) L = true then j_bd (f_M_lamp F (xs (j_ix (x3 + 1))) I60) (fun v61 I62 => (if v59 = v61 then f_L_law_1230 F L xs kb18 x3 I62 else some (0, I62))) else none)) else none) else (if v2 = 12 then (if j_ok (x3 + 1) L = true then (if j_ok (x3 + 2) L = true then (if j_ok (x3 + 3) L = true then j_bd (f_G_fuse F (xs (j_ix (x3 + 1))) (xs (j_ix (x3 + 2))) (xs (j_ix (x3 + 3))) I) (fun v64 I65 => (if j_ok (x3 + 1) L = true then (if j_ok (x3 + 2) L = true then (if j_ok (x3 + 3) L = true then j_bd (f_M_fuse F (xs (j_ix (x3 + 1))) (xs (j_ix (x3 + 2))) (xs (j_ix (x3 + 3))) I65) (fun v66 I67 => (if v64 = v66 then f_L_law_1230 F L xs kb18 x3 I67 else some (0, I67))) else none) else none) else none)) else none) else none) else none) else (if v2 = 13 then (if j_ok (x3 + 1) L = true then (if j_ok (x3 + 2) L = true then j_bd (f_G_light F (xs (j_ix (x3 + 1))) (xs (j_ix (x3 + 2))) I) (fun v69 I70 => (if j_ok (x3 + 1) L = true then (if j_ok (x3 + 2) L = true then j_bd (f_M_light F (xs (j_ix (x3 + 1))) (xs (j_ix (x3 + 2))) I70) (fun v71 I72 => (if v69 = v71 then f_L_law_1230 F L xs kb18 x3 I72 else some (0, I72))) else none) else none)) else none) else none) else (if v2 = 14 then (if j_ok (x3 + 1) L = true then j_bd (f_G_burns F (xs (j_ix (x3 + 1))) I) (fun v74 I75 => (if j_ok (x3 + 1) L = true then j_bd (f_M_burns F (xs (j_ix (x3 + 1))) I75) (fun v76 I77 => (if v74 = v76 then f_L_law_1230 F L xs kb18 x3 I77 else some (0, I77))) else none)) else none) else (if v2 = 15 then j_bd (f_G_dark F I) (fun v79 I80 => j_bd (f_M_dark F I80) (fun v81 I82 => (if v79 = v81 then f_L_law_1230 F L xs kb18 x3 I82 else some (0, I82)))) else (if v2 = 16 then j_bd (f_G_spent F I) (fun v84 I85 => j_bd (f_M_spent F I85) (fun v86 I87 => (if v84 = v86 then f_L_law_1230 F L xs kb18 x3 I87 else some (0, I87)))) else (if v2 = 17 then (if j_ok (x3 + 1) L = true then j_bd (f_G_best F (xs (j_ix (x3 + 1))) I) (fun v89 I90 => (if j_ok (x3 + 1) L = true then j_bd (f_M_best F (xs (j_ix (x3 + 1))) I90) (fun v91 I92 => (if v89 = v91 then f_L_law_1230 F L xs kb18 x3 I92 else some (0, I92))) else none)) else none) else (if v2 = 18 then (if j_ok (x3 + 1) L = true then (if j_ok (x3 + 2) L = true then j_bd (f_G_box F (xs (j_ix (x3 + 1))) (xs (j_ix (x3 + 2))) I) (fun v94 I95 => (if j_ok (x3 + 1) L = true then (if j_ok (x3 + 2) L = true then j_bd (f_M_box F (xs (j_ix (x3 + 1))) (xs (j_ix (x3 + 2))) I95) (fun v96 I97 => (if v94 = v96 then f_L_law_1230 F L xs kb18 x3 I97 else some (0, I97))) else none) else none)) else none) else none) else (if v2 = 19 then (if j_ok (x3 + 1) L = true then (if j_ok (x3 + 2) L = true then j_bd (f_G_let F (xs (j_ix (x3 + 1))) (xs (j_ix (x3 + 2))) I) (fun v99 I100 => (if j_ok (x3 + 1) L = true then (if j_ok (x3 + 2) L = true then j_bd (f_M_let F (xs (j_ix (x3 + 1))) (xs (j_ix (x3 + 2))) I100) (fun v101 I102 => (if v99 = v101 then f_L_law_1230 F L xs kb18 x3 I102 else some (0, I102))) else none) else none)) else none) else none) else (if v2 = 20 then (if j_ok (x3 + 1) L = true then j_bd (f_G_rise F (xs (j_ix (x3 + 1))) I) (fun v104 I105 => (if j_ok (x3 + 1) L = true then j_bd (f_M_rise F (xs (j_ix (x3 + 1))) I105) (fun v106 I107 => (if v104 = v106 then f_L_law_1230 F L xs kb18 x3 I107 else some (0, I107))) else none)) else none) else (if v2 = 21 then (if j_ok (x3 + 1) L = true then j_bd (f_G_in F (xs (j_ix (x3 + 1))) I) (fun v109 I110 => (if j_ok (x3 + 1) L = true then j_bd (f_M_in F (xs (j_ix (x3 + 1))) I110) (fun v111 I112 => (if v109 = v111 then f_L_law_1230 F L xs kb18 x3 I112 else some (0, I112))) else none)) else none) else (if v2 = 22 then (if j_ok (x3 + 1) L = true then j_bd (f_G_ham F (xs (j_ix (x3 + 1))) I) (fun v114 I115 => (if j_ok (x3 + 1) L = true then j_bd (f_M_ham F (xs (j_ix (x3 + 1))) I115) (fun v116 I117 => (if v114 = v116 then f_L_law_1230 F L xs kb18 x3 I117 else some (0, I117))) else none)) else none) else (if v2 = 23 then (if j_ok (x3 + 1) L = true then (if j_ok (x3 + 2) L = true then j_bd (f_G_rule F (xs (j_ix (x3 + 1))) (xs (j_ix (x3 + 2))) I) (fun v119 I120 => (if j_ok (x3 + 1) L = true then (if j_ok (x3 + 2) L = true then j_bd (f_M_rule F (xs (j_ix (x3 + 1))) (xs (j_ix (x3 + 2))) I120) (fun v121 I122 => (if v119 = v121 then f_L_law_1230 F L xs kb18 x3 I122 else some (0, I122))) else none) else none)) else none) else none) else (if v2 = 24 then (if j_ok (x3 + 1) L = true then (if j_ok (x3 + 2) L = true then j_bd (f_G_order F (xs (j_ix (x3 + 1))) (xs (j_ix (x3 + 2))) I) (fun v124 I125 => (if j_ok (x3 + 1) L = true then (if j_ok (x3 + 2) L = true then j_bd (f_M_order F (xs (j_ix (x3 + 1))) (xs (j_ix (x3 + 2))) I125) (fun v126 I127 => (if v124 = v126 then f_L_law_1230 F L xs kb18 x3 I127 else some (0, I127))) else none) else none)) else none) else none) else (if v2 = 25 then (if j_ok (x3 + 1) L = true then (if j_ok (x3 + 2) L = true then j_bd (f_G_feed F (xs (j_ix (x3 + 1))) (xs (j_ix (x3 + 2))) I) (fun v129 I130 => (if j_ok (x3 + 1) L = true then (if j_ok (x3 + 2) L = true then j_bd (f_M_feed F (xs (j_ix (x3 + 1))) (xs (j_ix (x3 + 2))) I130) (fun v131 I132 => (if v129 = v131 then f_L_law_1230 F L xs kb18 x3 I132 else some (0, I132))) else none) else none)) else none) else none) else (if v2 = 26 then (if j_ok (x3 + 1) L = true then (if j_ok (x3 + 2) L = true then j_bd (f_G_price F (xs (j_ix (x3 + 1))) (xs (j_ix (x3 + 2))) I) (fun v134 I135 => (if j_ok (x3 + 1) L = true then (if j_ok (x3 + 2) L = true then j_bd (f_M_price F (xs (j_ix (x3 + 1))) (xs (j_ix (x3 + 2))) I135) (fun v136 I137 => (if v134 = v136 then f_L_law_1230 F L xs kb18 x3 I137 else some (0, I137))) else none) else none)) else none) else none) else (if v2 = 27 then (if j_ok (x3 + 1) L = true then (if j_ok (x3 + 2) L = true then (if j_ok (x3 + 3) L = true then j_bd (f_G_inForce F (xs (j_ix (x3 + 1))) (xs (j_ix (x3 + 2))) (xs (j_ix (x3 + 3))) I) (fun v139 I140 => (if j_ok (x3 + 1) L = true then (if j_ok (x3 + 2) L = true then (if j_ok (x3 + 3) L = true then j_bd (f_M_inForce F (xs (j_ix (x3 + 1))) (xs (j_ix (x3 + 2))) (xs (j_ix (x3 + 3))) I140) (fun v141 I142 => (if v139 = v141 then f_L_law_1230 F L xs kb18 x3 I142 else some (0, I142))) else none) else none) else none)) else none) else none) else none) else (if v2 = 28 then (if j_ok (x3 + 1) L = true then (if j_ok (x3 + 2) L = true then (if j_ok (x3 + 3) L = true then j_bd (f_G_gives F (xs (j_ix (x3 + 1))) (xs (j_ix (x3 + 2))) (xs (j_ix (x3 + 3))) I) (fun v144 I145 => (if j_ok (x3 + 1) L = true then (if j_ok (x3 + 2) L = true then (if j_ok (x3 + 3) L = true then j_bd (f_M_gives F (xs (j_ix (x3 + 1))) (xs (j_ix (x3 + 2))) (xs (j_ix (x3 + 3))) I145) (fun v146 I147 => (if v144 = v146 then f_L_law_1230 F L xs kb18 x3 I147 else some (0, I147))) else none) else none) else none)) else none) else none) else none) else (if v2 = 29 then j_bd (f_G_close F I) (fun v149 I150 => j_bd (f_M_close F I150) (fun v151 I152 => (if v149 = v151 then f_L_law_1230 F L xs kb18 x3 I152 else some (0, I152)))) else (if v2 = 30 then (if j_ok (x3 + 1) L = true then (if j_ok (x3 + 2) L = true then j_bd (f_G_night F (xs (j_ix (x3 + 1))) (xs (j_ix (x3 + 2))) I) (fun v154 I155 => (if j_ok (x3 + 1) L = true then (if j_ok (x3 + 2) L = true then j_bd (f_M_night F (xs (j_ix (x3 + 1))) (xs (j_ix (x3 + 2))) I155) (fun v156 I157 => (if v154 = v156 then f_L_law_1230 F L xs kb18 x3 I157 else some (0, I157))) else none) else none)) else none) else none) else (if v2 = 31 then (if j_ok (x3 + 1) L = true then j_bd (f_G_foretold F (xs (j_ix (x3 + 1))) I) (fun v159 I160 => (if j_ok (x3 + 1) L = true then j_bd (f_M_foretold F (xs (j_ix (x3 + 1))) I160) (fun v161 I162 => (if v159 = v161 then f_L_law_1230 F L xs kb18 x3 I162 else some (0, I162))) else none)) else none) else (if v2 = 32 then (if j_ok (x3 + 1) L = true then (if j_ok (x3 + 2) L = true then j_bd (f_G_stolen F (xs (j_ix (x3 + 1))) (xs (j_ix (x3 + 2))) I) (fun v164 I165 => (if j_ok (x3 + 1) L = true then (if j_ok (x3 + 2) L = true then j_bd (f_M_stolen F (xs (j_ix (x3 + 1))) (xs (j_ix (x3 + 2))) I165) (fun v166 I167 => (if v164 = v166 then f_L_law_1230 F L xs kb18 x3 I167 else some (0, I167))) else none) else none)) else none) else none) else (if v2 = 33 then (if j_ok (x3 + 1) L = true then j_bd (f_G_near F (xs (j_ix (x3 + 1))) I) (fun v169 I170 => (if j_ok (x3 + 1) L = true then j_bd (f_M_near F (xs (j_ix (x3 + 1))) I170) (fun v171 I172 => (if v169 = v171 then f_L_law_1230 F L xs kb18 x3 I172 else some (0, I172))) else none)) else none) else (if v2 = 34 then (if j_ok (x3 + 1) L = true then j_bd (f_G_doubt F (xs (j_ix (x3 + 1))) I) (fun v174 I175 => (if j_ok (x3 + 1) L = true then j_bd (f_M_doubt F (xs (j_ix (x3 + 1))) I175) (fun v176 I177 => (if v174 = v176 then f_L_law_1230 F L xs kb18 x3 I177 else some (0, I177))) else none)) else none) else (if v2 = 35 then (if j_ok (x3 + 1) L = true then j_bd (f_G_count F (xs (j_ix (x3 + 1))) I) (fun v179 I180 => (if j_ok (x3 + 1) L = true then j_bd (f_M_count F (xs (j_ix (x3 + 1))) I180) (fun v181 I182 => (if v179 = v181 then f_L_law_1230 F L xs kb18 x3 I182 else some (0, I182))) else none)) else none) else f_L_law_1230 F L xs kb18 x3 I))))))))))))))))))))))))))))))))))))) else none))
def f_L_law_18 (F : Nat) (L : Nat) (xs : Nat → Int32)  (x3 : Int32) (I : j_M) : Option (Int32 × j_M) := j_it (fun (again : Int32 × j_M → Option (Int32 × j_M)) (q : Int32 × j_M) => f_L_law_18b F L xs (fun x3 I => again (x3, I))  q.1 q.2) F (x3, I)
set_option maxRecDepth 100000 in
set_option maxHeartbeats 4000000 in
theorem k_L_law_1230 {p : Program} {l : Launch} {e : Env} {s : State} {m : MethodId} {below : List Frame} {meth : Method} {c : Code} {g : j_G} {b : Nat} {P : j_R} {bb L : Nat} {xs : Nat → Int32} {F : Nat} (hF : j_Fx 0 260 P) (X : j_X p room_1 s m #[Value.ref bb] meth c g b 2000 code 4 "PleasureGardenLaw" (some .boolean)) (hX : va_X bb L xs s g.2.2.2.2) (hbb : bb < b) (hbs : b = s.heap.size) {kb18 : Int32 → j_M → Option (Int32 × j_M)} (hkb18 : ∀ (x3 : Int32) (I : j_M) (r : Int32 × j_M), kb18 x3 I = some r → r.1 = 1 → j_W p l e room_1 s m #[Value.ref bb] below meth c 4 g b 260 260 72696 (lw_Z below #[Value.ref bb] s) I P 18 [some (.ref bb), some (.ref (b + 0)), some (.ref (b + 215)), some (.int x3)] []) {x3 : Int32} {I : j_M} {r : Int32 × j_M}  (h : f_L_law_1230 F L xs kb18 x3 I = some r) : r.1 = 1 → j_W p l e room_1 s m #[Value.ref bb] below meth c 4 g b 260 260 72696 (lw_Z below #[Value.ref bb] s) I P 1230 [some (.ref bb), some (.ref (b + 0)), some (.ref (b + 215)), some (.int x3)] [] := by
  unfold f_L_law_1230 at h
  intro hr1
  have hn : 260 ≤ 260 := Nat.le_refl 260
  obtain ⟨v1, ev1, h⟩ := j_ex h
  refine j_iinc (v := v1) (lv' := [some (.ref bb), some (.ref (b + 0)), some (.ref (b + 215)), some (.int v1)]) X jd_L_law_1230 rfl (by rw [ev1]; rfl) (by decide) rfl ?_
  refine j_goto (tgt := 18) X jd_L_law_1233 rfl ?_
  exact hkb18 _ _ _ h hr1
set_option maxRecDepth 100000 in
set_option maxHeartbeats 4000000 in
theorem k_L_law_18b {p : Program} {l : Launch} {e : Env} {s : State} {m : MethodId} {below : List Frame} {meth : Method} {c : Code} {g : j_G} {b : Nat} {P : j_R} {bb L : Nat} {xs : Nat → Int32} {F : Nat} (hF : j_Fx 0 260 P) (X : j_X p room_1 s m #[Value.ref bb] meth c g b 2000 code 4 "PleasureGardenLaw" (some .boolean)) (hX : va_X bb L xs s g.2.2.2.2) (hbb : bb < b) (hbs : b = s.heap.size) {kb18 : Int32 → j_M → Option (Int32 × j_M)} (hkb18 : ∀ (x3 : Int32) (I : j_M) (r : Int32 × j_M), kb18 x3 I = some r → r.1 = 1 → j_W p l e room_1 s m #[Value.ref bb] below meth c 4 g b 260 260 72696 (lw_Z below #[Value.ref bb] s) I P 18 [some (.ref bb), some (.ref (b + 0)), some (.ref (b + 215)), some (.int x3)] []) {x3 : Int32} {I : j_M} {r : Int32 × j_M}  (h : f_L_law_18b F L xs kb18 x3 I = some r) : r.1 = 1 → j_W p l e room_1 s m #[Value.ref bb] below meth c 4 g b 260 260 72696 (lw_Z below #[Value.ref bb] s) I P 18 [some (.ref bb), some (.ref (b + 0)), some (.ref (b + 215)), some (.int x3)] [] := by
  unfold f_L_law_18b at h
  intro hr1
  have hn : 260 ≤ 260 := Nat.le_refl 260
  refine j_iload_n X jd_L_law_18 rfl rfl ?_
  refine j_aload_n X jd_L_law_19 rfl rfl ?_
  refine j_xlen X hX hbb jd_L_law_20 ?_
  refine j_iconst (v := 4) X jd_L_law_21 (by decide) ?_
  refine j_isub X jd_L_law_22 ?_
  refine j_icmp_gt (tgt := 1236) X jd_L_law_23 rfl h (fun h => ?_) (fun h => ?_)
  · refine j_iconst (v := 1) X jd_L_law_1236 (by decide) ?_
    exact j_lawret X hbs (Nat.le_of_ble_eq_true rfl) (Nat.le_of_ble_eq_true rfl) jd_L_law_1237 h hr1
  · refine j_aload_n X jd_L_law_26 rfl rfl ?_
    refine j_iload_n X jd_L_law_27 rfl rfl ?_
    refine j_xld X hX hbb jd_L_law_28 h (fun h => ?_)
    refine j_bipush (v := 63) X jd_L_law_29 (by decide) ?_
    refine j_iand X jd_L_law_31 ?_
    refine j_nm h (fun v2 h => ?_)
    refine j_ite h (fun e3 h => ?_) (fun e3 h => ?_)
    · refine j_tableIn (tgt := 192) (off := 160) X jd_L_law_32 e3 (by decide) (by decide) (by decide) rfl ?_
      refine j_aload_n X jd_L_law_192 rfl rfl ?_
      refine j_aload_n X jd_L_law_193 rfl rfl ?_
      refine j_iload_n X jd_L_law_194 rfl rfl ?_
      refine j_iconst (v := 1) X jd_L_law_195 (by decide) ?_
      refine j_iadd X jd_L_law_196 ?_
      refine j_xld X hX hbb jd_L_law_197 h (fun h => ?_)
      refine j_aload_n X jd_L_law_198 rfl rfl ?_
      refine j_iload_n X jd_L_law_199 rfl rfl ?_
      refine j_iconst (v := 2) X jd_L_law_200 (by decide) ?_
      refine j_iadd X jd_L_law_201 ?_
      refine j_xld X hX hbb jd_L_law_202 h (fun h => ?_)
      refine j_callVi (As := [.int (xs (j_ix (x3 + 1))), .int (xs (j_ix (x3 + 2)))]) (st := []) (c0 := 0) X h jc_G js_0 (j_lt rfl hn) ⟨jqc_G_place, jqi_G_place, jqv_G_place, jqn_G⟩ jlm_L_13 jh_G_place rfl (by decide) (by decide) (Nat.le_of_ble_eq_true rfl) ⟨Nat.le_of_ble_eq_true rfl, Nat.le_of_ble_eq_true rfl⟩ (fun v0 I0 h => k_G_place (r := (v0, I0)) hF hn h) jd_L_law_203 rfl (fun v4 I5 h => ?_)
      refine j_aload_n X jd_L_law_206 rfl rfl ?_
      refine j_aload_n X jd_L_law_207 rfl rfl ?_
      refine j_iload_n X jd_L_law_208 rfl rfl ?_
      refine j_iconst (v := 1) X jd_L_law_209 (by decide) ?_
      refine j_iadd X jd_L_law_210 ?_
      refine j_xld X hX hbb jd_L_law_211 h (fun h => ?_)
      refine j_aload_n X jd_L_law_212 rfl rfl ?_
      refine j_iload_n X jd_L_law_213 rfl rfl ?_
      refine j_iconst (v := 2) X jd_L_law_214 (by decide) ?_
      refine j_iadd X jd_L_law_215 ?_
      refine j_xld X hX hbb jd_L_law_216 h (fun h => ?_)
      refine j_callVi (As := [.int (xs (j_ix (x3 + 1))), .int (xs (j_ix (x3 + 2)))]) (st := [.int v4]) (c0 := 215) X h jc_M js_215 (j_lt rfl hn) ⟨jqc_M_place, jqi_M_place, jqv_M_place, jqn_M⟩ jlm_L_17 jh_M_place rfl (by decide) (by decide) (Nat.le_of_ble_eq_true rfl) ⟨Nat.le_of_ble_eq_true rfl, Nat.le_of_ble_eq_true rfl⟩ (fun v0 I0 h => k_M_place (r := (v0, I0)) hF hn h) jd_L_law_217 rfl (fun v6 I7 h => ?_)
      refine j_icmp_eq (tgt := 1230) X jd_L_law_220 rfl h (fun h => ?_) (fun h => ?_)
      · exact k_L_law_1230 hF X hX hbb hbs hkb18 h hr1
      · refine j_iconst (v := 0) X jd_L_law_223 (by decide) ?_
        exact j_lawret X hbs (Nat.le_of_ble_eq_true rfl) (Nat.le_of_ble_eq_true rfl) jd_L_law_224 h hr1
    · refine j_ite h (fun e8 h => ?_) (fun e8 h => ?_)
      · refine j_tableIn (tgt := 225) (off := 193) X jd_L_law_32 e8 (by decide) (by decide) (by decide) rfl ?_
        refine j_aload_n X jd_L_law_225 rfl rfl ?_
        refine j_aload_n X jd_L_law_226 rfl rfl ?_
        refine j_iload_n X jd_L_law_227 rfl rfl ?_
        refine j_iconst (v := 1) X jd_L_law_228 (by decide) ?_
        refine j_iadd X jd_L_law_229 ?_
        refine j_xld X hX hbb jd_L_law_230 h (fun h => ?_)
        refine j_aload_n X jd_L_law_231 rfl rfl ?_
        refine j_iload_n X jd_L_law_232 rfl rfl ?_
        refine j_iconst (v := 2) X jd_L_law_233 (by decide) ?_
        refine j_iadd X jd_L_law_234 ?_
        refine j_xld X hX hbb jd_L_law_235 h (fun h => ?_)
        refine j_aload_n X jd_L_law_236 rfl rfl ?_
        refine j_iload_n X jd_L_law_237 rfl rfl ?_
        refine j_iconst (v := 3) X jd_L_law_238 (by decide) ?_
        refine j_iadd X jd_L_law_239 ?_
        refine j_xld X hX hbb jd_L_law_240 h (fun h => ?_)
        refine j_callVi (As := [.int (xs (j_ix (x3 + 1))), .int (xs (j_ix (x3 + 2))), .int (xs (j_ix (x3 + 3)))]) (st := []) (c0 := 0) X h jc_G js_0 (j_lt rfl hn) ⟨jqc_G_walk, jqi_G_walk, jqv_G_walk, jqn_G⟩ jlm_L_18 jh_G_walk rfl (by decide) (by decide) (Nat.le_of_ble_eq_true rfl) ⟨Nat.le_of_ble_eq_true rfl, Nat.le_of_ble_eq_true rfl⟩ (fun v0 I0 h => k_G_walk (r := (v0, I0)) hF hn h) jd_L_law_241 rfl (fun v9 I10 h => ?_)
        refine j_aload_n X jd_L_law_244 rfl rfl ?_
        refine j_aload_n X jd_L_law_245 rfl rfl ?_
        refine j_iload_n X jd_L_law_246 rfl rfl ?_
        refine j_iconst (v := 1) X jd_L_law_247 (by decide) ?_
        refine j_iadd X jd_L_law_248 ?_
        refine j_xld X hX hbb jd_L_law_249 h (fun h => ?_)
        refine j_aload_n X jd_L_law_250 rfl rfl ?_
        refine j_iload_n X jd_L_law_251 rfl rfl ?_
        refine j_iconst (v := 2) X jd_L_law_252 (by decide) ?_
        refine j_iadd X jd_L_law_253 ?_
        refine j_xld X hX hbb jd_L_law_254 h (fun h => ?_)
        refine j_aload_n X jd_L_law_255 rfl rfl ?_
        refine j_iload_n X jd_L_law_256 rfl rfl ?_
        refine j_iconst (v := 3) X jd_L_law_257 (by decide) ?_
        refine j_iadd X jd_L_law_258 ?_
        refine j_xld X hX hbb jd_L_law_259 h (fun h => ?_)
        refine j_callVi (As := [.int (xs (j_ix (x3 + 1))), .int (xs (j_ix (x3 + 2))), .int (xs (j_ix (x3 + 3)))]) (st := [.int v9]) (c0 := 215) X h jc_M js_215 (j_lt rfl hn) ⟨jqc_M_walk, jqi_M_walk, jqv_M_walk, jqn_M⟩ jlm_L_22 jh_M_walk rfl (by decide) (by decide) (Nat.le_of_ble_eq_true rfl) ⟨Nat.le_of_ble_eq_true rfl, Nat.le_of_ble_eq_true rfl⟩ (fun v0 I0 h => k_M_walk (r := (v0, I0)) hF hn h) jd_L_law_260 rfl (fun v11 I12 h => ?_)
        refine j_icmp_eq (tgt := 1230) X jd_L_law_263 rfl h (fun h => ?_) (fun h => ?_)
        · exact k_L_law_1230 hF X hX hbb hbs hkb18 h hr1
        · refine j_iconst (v := 0) X jd_L_law_266 (by decide) ?_
          exact j_lawret X hbs (Nat.le_of_ble_eq_true rfl) (Nat.le_of_ble_eq_true rfl) jd_L_law_267 h hr1
      · refine j_ite h (fun e13 h => ?_) (fun e13 h => ?_)
        · refine j_tableIn (tgt := 268) (off := 236) X jd_L_law_32 e13 (by decide) (by decide) (by decide) rfl ?_
          refine j_aload_n X jd_L_law_268 rfl rfl ?_
          refine j_aload_n X jd_L_law_269 rfl rfl ?_
          refine j_iload_n X jd_L_law_270 rfl rfl ?_
          refine j_iconst (v := 1) X jd_L_law_271 (by decide) ?_
          refine j_iadd X jd_L_law_272 ?_
          refine j_xld X hX hbb jd_L_law_273 h (fun h => ?_)
          refine j_aload_n X jd_L_law_274 rfl rfl ?_
          refine j_iload_n X jd_L_law_275 rfl rfl ?_
          refine j_iconst (v := 2) X jd_L_law_276 (by decide) ?_
          refine j_iadd X jd_L_law_277 ?_
          refine j_xld X hX hbb jd_L_law_278 h (fun h => ?_)
          refine j_callVi (As := [.int (xs (j_ix (x3 + 1))), .int (xs (j_ix (x3 + 2)))]) (st := []) (c0 := 0) X h jc_G js_0 (j_lt rfl hn) ⟨jqc_G_way, jqi_G_way, jqv_G_way, jqn_G⟩ jlm_L_23 jh_G_way rfl (by decide) (by decide) (Nat.le_of_ble_eq_true rfl) ⟨Nat.le_of_ble_eq_true rfl, Nat.le_of_ble_eq_true rfl⟩ (fun v0 I0 h => k_G_way (r := (v0, I0)) hF hn h) jd_L_law_279 rfl (fun v14 I15 h => ?_)
          refine j_aload_n X jd_L_law_282 rfl rfl ?_
          refine j_aload_n X jd_L_law_283 rfl rfl ?_
          refine j_iload_n X jd_L_law_284 rfl rfl ?_
          refine j_iconst (v := 1) X jd_L_law_285 (by decide) ?_
          refine j_iadd X jd_L_law_286 ?_
          refine j_xld X hX hbb jd_L_law_287 h (fun h => ?_)
          refine j_aload_n X jd_L_law_288 rfl rfl ?_
          refine j_iload_n X jd_L_law_289 rfl rfl ?_
          refine j_iconst (v := 2) X jd_L_law_290 (by decide) ?_
          refine j_iadd X jd_L_law_291 ?_
          refine j_xld X hX hbb jd_L_law_292 h (fun h => ?_)
          refine j_callVi (As := [.int (xs (j_ix (x3 + 1))), .int (xs (j_ix (x3 + 2)))]) (st := [.int v14]) (c0 := 215) X h jc_M js_215 (j_lt rfl hn) ⟨jqc_M_way, jqi_M_way, jqv_M_way, jqn_M⟩ jlm_L_26 jh_M_way rfl (by decide) (by decide) (Nat.le_of_ble_eq_true rfl) ⟨Nat.le_of_ble_eq_true rfl, Nat.le_of_ble_eq_true rfl⟩ (fun v0 I0 h => k_M_way (r := (v0, I0)) hF hn h) jd_L_law_293 rfl (fun v16 I17 h => ?_)
          refine j_icmp_eq (tgt := 1230) X jd_L_law_296 rfl h (fun h => ?_) (fun h => ?_)
          · exact k_L_law_1230 hF X hX hbb hbs hkb18 h hr1
          · refine j_iconst (v := 0) X jd_L_law_299 (by decide) ?_
            exact j_lawret X hbs (Nat.le_of_ble_eq_true rfl) (Nat.le_of_ble_eq_true rfl) jd_L_law_300 h hr1
        · refine j_ite h (fun e18 h => ?_) (fun e18 h => ?_)
          · refine j_tableIn (tgt := 301) (off := 269) X jd_L_law_32 e18 (by decide) (by decide) (by decide) rfl ?_
            refine j_aload_n X jd_L_law_301 rfl rfl ?_
            refine j_aload_n X jd_L_law_302 rfl rfl ?_
            refine j_iload_n X jd_L_law_303 rfl rfl ?_
            refine j_iconst (v := 1) X jd_L_law_304 (by decide) ?_
            refine j_iadd X jd_L_law_305 ?_
            refine j_xld X hX hbb jd_L_law_306 h (fun h => ?_)
            refine j_aload_n X jd_L_law_307 rfl rfl ?_
            refine j_iload_n X jd_L_law_308 rfl rfl ?_
            refine j_iconst (v := 2) X jd_L_law_309 (by decide) ?_
            refine j_iadd X jd_L_law_310 ?_
            refine j_xld X hX hbb jd_L_law_311 h (fun h => ?_)
            refine j_callVi (As := [.int (xs (j_ix (x3 + 1))), .int (xs (j_ix (x3 + 2)))]) (st := []) (c0 := 0) X h jc_G js_0 (j_lt rfl hn) ⟨jqc_G_rain, jqi_G_rain, jqv_G_rain, jqn_G⟩ jlm_L_27 jh_G_rain rfl (by decide) (by decide) (Nat.le_of_ble_eq_true rfl) ⟨Nat.le_of_ble_eq_true rfl, Nat.le_of_ble_eq_true rfl⟩ (fun v0 I0 h => k_G_rain (r := (v0, I0)) hF hn h) jd_L_law_312 rfl (fun v19 I20 h => ?_)
            refine j_aload_n X jd_L_law_315 rfl rfl ?_
            refine j_aload_n X jd_L_law_316 rfl rfl ?_
            refine j_iload_n X jd_L_law_317 rfl rfl ?_
            refine j_iconst (v := 1) X jd_L_law_318 (by decide) ?_
            refine j_iadd X jd_L_law_319 ?_
            refine j_xld X hX hbb jd_L_law_320 h (fun h => ?_)
            refine j_aload_n X jd_L_law_321 rfl rfl ?_
            refine j_iload_n X jd_L_law_322 rfl rfl ?_
            refine j_iconst (v := 2) X jd_L_law_323 (by decide) ?_
            refine j_iadd X jd_L_law_324 ?_
            refine j_xld X hX hbb jd_L_law_325 h (fun h => ?_)
            refine j_callVi (As := [.int (xs (j_ix (x3 + 1))), .int (xs (j_ix (x3 + 2)))]) (st := [.int v19]) (c0 := 215) X h jc_M js_215 (j_lt rfl hn) ⟨jqc_M_rain, jqi_M_rain, jqv_M_rain, jqn_M⟩ jlm_L_30 jh_M_rain rfl (by decide) (by decide) (Nat.le_of_ble_eq_true rfl) ⟨Nat.le_of_ble_eq_true rfl, Nat.le_of_ble_eq_true rfl⟩ (fun v0 I0 h => k_M_rain (r := (v0, I0)) hF hn h) jd_L_law_326 rfl (fun v21 I22 h => ?_)
            refine j_icmp_eq (tgt := 1230) X jd_L_law_329 rfl h (fun h => ?_) (fun h => ?_)
            · exact k_L_law_1230 hF X hX hbb hbs hkb18 h hr1
            · refine j_iconst (v := 0) X jd_L_law_332 (by decide) ?_
              exact j_lawret X hbs (Nat.le_of_ble_eq_true rfl) (Nat.le_of_ble_eq_true rfl) jd_L_law_333 h hr1
          · refine j_ite h (fun e23 h => ?_) (fun e23 h => ?_)
            · refine j_tableIn (tgt := 334) (off := 302) X jd_L_law_32 e23 (by decide) (by decide) (by decide) rfl ?_
              refine j_aload_n X jd_L_law_334 rfl rfl ?_
              refine j_aload_n X jd_L_law_335 rfl rfl ?_
              refine j_iload_n X jd_L_law_336 rfl rfl ?_
              refine j_iconst (v := 1) X jd_L_law_337 (by decide) ?_
              refine j_iadd X jd_L_law_338 ?_
              refine j_xld X hX hbb jd_L_law_339 h (fun h => ?_)
              refine j_aload_n X jd_L_law_340 rfl rfl ?_
              refine j_iload_n X jd_L_law_341 rfl rfl ?_
              refine j_iconst (v := 2) X jd_L_law_342 (by decide) ?_
              refine j_iadd X jd_L_law_343 ?_
              refine j_xld X hX hbb jd_L_law_344 h (fun h => ?_)
              refine j_callVi (As := [.int (xs (j_ix (x3 + 1))), .int (xs (j_ix (x3 + 2)))]) (st := []) (c0 := 0) X h jc_G js_0 (j_lt rfl hn) ⟨jqc_G_sell, jqi_G_sell, jqv_G_sell, jqn_G⟩ jlm_L_31 jh_G_sell rfl (by decide) (by decide) (Nat.le_of_ble_eq_true rfl) ⟨Nat.le_of_ble_eq_true rfl, Nat.le_of_ble_eq_true rfl⟩ (fun v0 I0 h => k_G_sell (r := (v0, I0)) hF hn h) jd_L_law_345 rfl (fun v24 I25 h => ?_)
              refine j_aload_n X jd_L_law_348 rfl rfl ?_
              refine j_aload_n X jd_L_law_349 rfl rfl ?_
              refine j_iload_n X jd_L_law_350 rfl rfl ?_
              refine j_iconst (v := 1) X jd_L_law_351 (by decide) ?_
              refine j_iadd X jd_L_law_352 ?_
              refine j_xld X hX hbb jd_L_law_353 h (fun h => ?_)
              refine j_aload_n X jd_L_law_354 rfl rfl ?_
              refine j_iload_n X jd_L_law_355 rfl rfl ?_
              refine j_iconst (v := 2) X jd_L_law_356 (by decide) ?_
              refine j_iadd X jd_L_law_357 ?_
              refine j_xld X hX hbb jd_L_law_358 h (fun h => ?_)
              refine j_callVi (As := [.int (xs (j_ix (x3 + 1))), .int (xs (j_ix (x3 + 2)))]) (st := [.int v24]) (c0 := 215) X h jc_M js_215 (j_lt rfl hn) ⟨jqc_M_sell, jqi_M_sell, jqv_M_sell, jqn_M⟩ jlm_L_34 jh_M_sell rfl (by decide) (by decide) (Nat.le_of_ble_eq_true rfl) ⟨Nat.le_of_ble_eq_true rfl, Nat.le_of_ble_eq_true rfl⟩ (fun v0 I0 h => k_M_sell (r := (v0, I0)) hF hn h) jd_L_law_359 rfl (fun v26 I27 h => ?_)
              refine j_icmp_eq (tgt := 1230) X jd_L_law_362 rfl h (fun h => ?_) (fun h => ?_)
              · exact k_L_law_1230 hF X hX hbb hbs hkb18 h hr1
              · refine j_iconst (v := 0) X jd_L_law_365 (by decide) ?_
                exact j_lawret X hbs (Nat.le_of_ble_eq_true rfl) (Nat.le_of_ble_eq_true rfl) jd_L_law_366 h hr1
            · refine j_ite h (fun e28 h => ?_) (fun e28 h => ?_)
              · refine j_tableIn (tgt := 367) (off := 335) X jd_L_law_32 e28 (by decide) (by decide) (by decide) rfl ?_
                refine j_aload_n X jd_L_law_367 rfl rfl ?_
                refine j_aload_n X jd_L_law_368 rfl rfl ?_
                refine j_iload_n X jd_L_law_369 rfl rfl ?_
                refine j_iconst (v := 1) X jd_L_law_370 (by decide) ?_
                refine j_iadd X jd_L_law_371 ?_
                refine j_xld X hX hbb jd_L_law_372 h (fun h => ?_)
                refine j_aload_n X jd_L_law_373 rfl rfl ?_
                refine j_iload_n X jd_L_law_374 rfl rfl ?_
                refine j_iconst (v := 2) X jd_L_law_375 (by decide) ?_
                refine j_iadd X jd_L_law_376 ?_
                refine j_xld X hX hbb jd_L_law_377 h (fun h => ?_)
                refine j_callVi (As := [.int (xs (j_ix (x3 + 1))), .int (xs (j_ix (x3 + 2)))]) (st := []) (c0 := 0) X h jc_G js_0 (j_lt rfl hn) ⟨jqc_G_enter, jqi_G_enter, jqv_G_enter, jqn_G⟩ jlm_L_35 jh_G_enter rfl (by decide) (by decide) (Nat.le_of_ble_eq_true rfl) ⟨Nat.le_of_ble_eq_true rfl, Nat.le_of_ble_eq_true rfl⟩ (fun v0 I0 h => k_G_enter (r := (v0, I0)) hF hn h) jd_L_law_378 rfl (fun v29 I30 h => ?_)
                refine j_aload_n X jd_L_law_381 rfl rfl ?_
                refine j_aload_n X jd_L_law_382 rfl rfl ?_
                refine j_iload_n X jd_L_law_383 rfl rfl ?_
                refine j_iconst (v := 1) X jd_L_law_384 (by decide) ?_
                refine j_iadd X jd_L_law_385 ?_
                refine j_xld X hX hbb jd_L_law_386 h (fun h => ?_)
                refine j_aload_n X jd_L_law_387 rfl rfl ?_
                refine j_iload_n X jd_L_law_388 rfl rfl ?_
                refine j_iconst (v := 2) X jd_L_law_389 (by decide) ?_
                refine j_iadd X jd_L_law_390 ?_
                refine j_xld X hX hbb jd_L_law_391 h (fun h => ?_)
                refine j_callVi (As := [.int (xs (j_ix (x3 + 1))), .int (xs (j_ix (x3 + 2)))]) (st := [.int v29]) (c0 := 215) X h jc_M js_215 (j_lt rfl hn) ⟨jqc_M_enter, jqi_M_enter, jqv_M_enter, jqn_M⟩ jlm_L_38 jh_M_enter rfl (by decide) (by decide) (Nat.le_of_ble_eq_true rfl) ⟨Nat.le_of_ble_eq_true rfl, Nat.le_of_ble_eq_true rfl⟩ (fun v0 I0 h => k_M_enter (r := (v0, I0)) hF hn h) jd_L_law_392 rfl (fun v31 I32 h => ?_)
                refine j_icmp_eq (tgt := 1230) X jd_L_law_395 rfl h (fun h => ?_) (fun h => ?_)
                · exact k_L_law_1230 hF X hX hbb hbs hkb18 h hr1
                · refine j_iconst (v := 0) X jd_L_law_398 (by decide) ?_
                  exact j_lawret X hbs (Nat.le_of_ble_eq_true rfl) (Nat.le_of_ble_eq_true rfl) jd_L_law_399 h hr1
              · refine j_ite h (fun e33 h => ?_) (fun e33 h => ?_)
                · refine j_tableIn (tgt := 400) (off := 368) X jd_L_law_32 e33 (by decide) (by decide) (by decide) rfl ?_
                  refine j_aload_n X jd_L_law_400 rfl rfl ?_
                  refine j_aload_n X jd_L_law_401 rfl rfl ?_
                  refine j_iload_n X jd_L_law_402 rfl rfl ?_
                  refine j_iconst (v := 1) X jd_L_law_403 (by decide) ?_
                  refine j_iadd X jd_L_law_404 ?_
                  refine j_xld X hX hbb jd_L_law_405 h (fun h => ?_)
                  refine j_aload_n X jd_L_law_406 rfl rfl ?_
                  refine j_iload_n X jd_L_law_407 rfl rfl ?_
                  refine j_iconst (v := 2) X jd_L_law_408 (by decide) ?_
                  refine j_iadd X jd_L_law_409 ?_
                  refine j_xld X hX hbb jd_L_law_410 h (fun h => ?_)
                  refine j_callVi (As := [.int (xs (j_ix (x3 + 1))), .int (xs (j_ix (x3 + 2)))]) (st := []) (c0 := 0) X h jc_G js_0 (j_lt rfl hn) ⟨jqc_G_go, jqi_G_go, jqv_G_go, jqn_G⟩ jlm_L_39 jh_G_go rfl (by decide) (by decide) (Nat.le_of_ble_eq_true rfl) ⟨Nat.le_of_ble_eq_true rfl, Nat.le_of_ble_eq_true rfl⟩ (fun v0 I0 h => k_G_go (r := (v0, I0)) hF hn h) jd_L_law_411 rfl (fun v34 I35 h => ?_)
                  refine j_aload_n X jd_L_law_414 rfl rfl ?_
                  refine j_aload_n X jd_L_law_415 rfl rfl ?_
                  refine j_iload_n X jd_L_law_416 rfl rfl ?_
                  refine j_iconst (v := 1) X jd_L_law_417 (by decide) ?_
                  refine j_iadd X jd_L_law_418 ?_
                  refine j_xld X hX hbb jd_L_law_419 h (fun h => ?_)
                  refine j_aload_n X jd_L_law_420 rfl rfl ?_
                  refine j_iload_n X jd_L_law_421 rfl rfl ?_
                  refine j_iconst (v := 2) X jd_L_law_422 (by decide) ?_
                  refine j_iadd X jd_L_law_423 ?_
                  refine j_xld X hX hbb jd_L_law_424 h (fun h => ?_)
                  refine j_callVi (As := [.int (xs (j_ix (x3 + 1))), .int (xs (j_ix (x3 + 2)))]) (st := [.int v34]) (c0 := 215) X h jc_M js_215 (j_lt rfl hn) ⟨jqc_M_go, jqi_M_go, jqv_M_go, jqn_M⟩ jlm_L_42 jh_M_go rfl (by decide) (by decide) (Nat.le_of_ble_eq_true rfl) ⟨Nat.le_of_ble_eq_true rfl, Nat.le_of_ble_eq_true rfl⟩ (fun v0 I0 h => k_M_go (r := (v0, I0)) hF hn h) jd_L_law_425 rfl (fun v36 I37 h => ?_)
                  refine j_icmp_eq (tgt := 1230) X jd_L_law_428 rfl h (fun h => ?_) (fun h => ?_)
                  · exact k_L_law_1230 hF X hX hbb hbs hkb18 h hr1
                  · refine j_iconst (v := 0) X jd_L_law_431 (by decide) ?_
                    exact j_lawret X hbs (Nat.le_of_ble_eq_true rfl) (Nat.le_of_ble_eq_true rfl) jd_L_law_432 h hr1
                · refine j_ite h (fun e38 h => ?_) (fun e38 h => ?_)
                  · refine j_tableIn (tgt := 433) (off := 401) X jd_L_law_32 e38 (by decide) (by decide) (by decide) rfl ?_
                    refine j_aload_n X jd_L_law_433 rfl rfl ?_
                    refine j_aload_n X jd_L_law_434 rfl rfl ?_
                    refine j_iload_n X jd_L_law_435 rfl rfl ?_
                    refine j_iconst (v := 1) X jd_L_law_436 (by decide) ?_
                    refine j_iadd X jd_L_law_437 ?_
                    refine j_xld X hX hbb jd_L_law_438 h (fun h => ?_)
                    refine j_callVi (As := [.int (xs (j_ix (x3 + 1)))]) (st := []) (c0 := 0) X h jc_G js_0 (j_lt rfl hn) ⟨jqc_G_leave, jqi_G_leave, jqv_G_leave, jqn_G⟩ jlm_L_43 jh_G_leave rfl (by decide) (by decide) (Nat.le_of_ble_eq_true rfl) ⟨Nat.le_of_ble_eq_true rfl, Nat.le_of_ble_eq_true rfl⟩ (fun v0 I0 h => k_G_leave (r := (v0, I0)) hF hn h) jd_L_law_439 rfl (fun v39 I40 h => ?_)
                    refine j_aload_n X jd_L_law_442 rfl rfl ?_
                    refine j_aload_n X jd_L_law_443 rfl rfl ?_
                    refine j_iload_n X jd_L_law_444 rfl rfl ?_
                    refine j_iconst (v := 1) X jd_L_law_445 (by decide) ?_
                    refine j_iadd X jd_L_law_446 ?_
                    refine j_xld X hX hbb jd_L_law_447 h (fun h => ?_)
                    refine j_callVi (As := [.int (xs (j_ix (x3 + 1)))]) (st := [.int v39]) (c0 := 215) X h jc_M js_215 (j_lt rfl hn) ⟨jqc_M_leave, jqi_M_leave, jqv_M_leave, jqn_M⟩ jlm_L_47 jh_M_leave rfl (by decide) (by decide) (Nat.le_of_ble_eq_true rfl) ⟨Nat.le_of_ble_eq_true rfl, Nat.le_of_ble_eq_true rfl⟩ (fun v0 I0 h => k_M_leave (r := (v0, I0)) hF hn h) jd_L_law_448 rfl (fun v41 I42 h => ?_)
                    refine j_icmp_eq (tgt := 1230) X jd_L_law_451 rfl h (fun h => ?_) (fun h => ?_)
                    · exact k_L_law_1230 hF X hX hbb hbs hkb18 h hr1
                    · refine j_iconst (v := 0) X jd_L_law_454 (by decide) ?_
                      exact j_lawret X hbs (Nat.le_of_ble_eq_true rfl) (Nat.le_of_ble_eq_true rfl) jd_L_law_455 h hr1
                  · refine j_ite h (fun e43 h => ?_) (fun e43 h => ?_)
                    · refine j_tableIn (tgt := 456) (off := 424) X jd_L_law_32 e43 (by decide) (by decide) (by decide) rfl ?_
                      refine j_aload_n X jd_L_law_456 rfl rfl ?_
                      refine j_aload_n X jd_L_law_457 rfl rfl ?_
                      refine j_iload_n X jd_L_law_458 rfl rfl ?_
                      refine j_iconst (v := 1) X jd_L_law_459 (by decide) ?_
                      refine j_iadd X jd_L_law_460 ?_
                      refine j_xld X hX hbb jd_L_law_461 h (fun h => ?_)
                      refine j_aload_n X jd_L_law_462 rfl rfl ?_
                      refine j_iload_n X jd_L_law_463 rfl rfl ?_
                      refine j_iconst (v := 2) X jd_L_law_464 (by decide) ?_
                      refine j_iadd X jd_L_law_465 ?_
                      refine j_xld X hX hbb jd_L_law_466 h (fun h => ?_)
                      refine j_callVi (As := [.int (xs (j_ix (x3 + 1))), .int (xs (j_ix (x3 + 2)))]) (st := []) (c0 := 0) X h jc_G js_0 (j_lt rfl hn) ⟨jqc_G_party, jqi_G_party, jqv_G_party, jqn_G⟩ jlm_L_48 jh_G_party rfl (by decide) (by decide) (Nat.le_of_ble_eq_true rfl) ⟨Nat.le_of_ble_eq_true rfl, Nat.le_of_ble_eq_true rfl⟩ (fun v0 I0 h => k_G_party (r := (v0, I0)) hF hn h) jd_L_law_467 rfl (fun v44 I45 h => ?_)
                      refine j_aload_n X jd_L_law_470 rfl rfl ?_
                      refine j_aload_n X jd_L_law_471 rfl rfl ?_
                      refine j_iload_n X jd_L_law_472 rfl rfl ?_
                      refine j_iconst (v := 1) X jd_L_law_473 (by decide) ?_
                      refine j_iadd X jd_L_law_474 ?_
                      refine j_xld X hX hbb jd_L_law_475 h (fun h => ?_)
                      refine j_aload_n X jd_L_law_476 rfl rfl ?_
                      refine j_iload_n X jd_L_law_477 rfl rfl ?_
                      refine j_iconst (v := 2) X jd_L_law_478 (by decide) ?_
                      refine j_iadd X jd_L_law_479 ?_
                      refine j_xld X hX hbb jd_L_law_480 h (fun h => ?_)
                      refine j_callVi (As := [.int (xs (j_ix (x3 + 1))), .int (xs (j_ix (x3 + 2)))]) (st := [.int v44]) (c0 := 215) X h jc_M js_215 (j_lt rfl hn) ⟨jqc_M_party, jqi_M_party, jqv_M_party, jqn_M⟩ jlm_L_51 jh_M_party rfl (by decide) (by decide) (Nat.le_of_ble_eq_true rfl) ⟨Nat.le_of_ble_eq_true rfl, Nat.le_of_ble_eq_true rfl⟩ (fun v0 I0 h => k_M_party (r := (v0, I0)) hF hn h) jd_L_law_481 rfl (fun v46 I47 h => ?_)
                      refine j_icmp_eq (tgt := 1230) X jd_L_law_484 rfl h (fun h => ?_) (fun h => ?_)
                      · exact k_L_law_1230 hF X hX hbb hbs hkb18 h hr1
                      · refine j_iconst (v := 0) X jd_L_law_487 (by decide) ?_
                        exact j_lawret X hbs (Nat.le_of_ble_eq_true rfl) (Nat.le_of_ble_eq_true rfl) jd_L_law_488 h hr1
                    · refine j_ite h (fun e48 h => ?_) (fun e48 h => ?_)
                      · refine j_tableIn (tgt := 489) (off := 457) X jd_L_law_32 e48 (by decide) (by decide) (by decide) rfl ?_
                        refine j_aload_n X jd_L_law_489 rfl rfl ?_
                        refine j_aload_n X jd_L_law_490 rfl rfl ?_
                        refine j_iload_n X jd_L_law_491 rfl rfl ?_
                        refine j_iconst (v := 1) X jd_L_law_492 (by decide) ?_
                        refine j_iadd X jd_L_law_493 ?_
                        refine j_xld X hX hbb jd_L_law_494 h (fun h => ?_)
                        refine j_callVi (As := [.int (xs (j_ix (x3 + 1)))]) (st := []) (c0 := 0) X h jc_G js_0 (j_lt rfl hn) ⟨jqc_G_heads, jqi_G_heads, jqv_G_heads, jqn_G⟩ jlm_L_52 jh_G_heads rfl (by decide) (by decide) (Nat.le_of_ble_eq_true rfl) ⟨Nat.le_of_ble_eq_true rfl, Nat.le_of_ble_eq_true rfl⟩ (fun v0 I0 h => k_G_heads (r := (v0, I0)) hF hn h) jd_L_law_495 rfl (fun v49 I50 h => ?_)
                        refine j_aload_n X jd_L_law_498 rfl rfl ?_
                        refine j_aload_n X jd_L_law_499 rfl rfl ?_
                        refine j_iload_n X jd_L_law_500 rfl rfl ?_
                        refine j_iconst (v := 1) X jd_L_law_501 (by decide) ?_
                        refine j_iadd X jd_L_law_502 ?_
                        refine j_xld X hX hbb jd_L_law_503 h (fun h => ?_)
                        refine j_callVi (As := [.int (xs (j_ix (x3 + 1)))]) (st := [.int v49]) (c0 := 215) X h jc_M js_215 (j_lt rfl hn) ⟨jqc_M_heads, jqi_M_heads, jqv_M_heads, jqn_M⟩ jlm_L_55 jh_M_heads rfl (by decide) (by decide) (Nat.le_of_ble_eq_true rfl) ⟨Nat.le_of_ble_eq_true rfl, Nat.le_of_ble_eq_true rfl⟩ (fun v0 I0 h => k_M_heads (r := (v0, I0)) hF hn h) jd_L_law_504 rfl (fun v51 I52 h => ?_)
                        refine j_icmp_eq (tgt := 1230) X jd_L_law_507 rfl h (fun h => ?_) (fun h => ?_)
                        · exact k_L_law_1230 hF X hX hbb hbs hkb18 h hr1
                        · refine j_iconst (v := 0) X jd_L_law_510 (by decide) ?_
                          exact j_lawret X hbs (Nat.le_of_ble_eq_true rfl) (Nat.le_of_ble_eq_true rfl) jd_L_law_511 h hr1
                      · refine j_ite h (fun e53 h => ?_) (fun e53 h => ?_)
                        · refine j_tableIn (tgt := 512) (off := 480) X jd_L_law_32 e53 (by decide) (by decide) (by decide) rfl ?_
                          refine j_aload_n X jd_L_law_512 rfl rfl ?_
                          refine j_aload_n X jd_L_law_513 rfl rfl ?_
                          refine j_iload_n X jd_L_law_514 rfl rfl ?_
                          refine j_iconst (v := 1) X jd_L_law_515 (by decide) ?_
                          refine j_iadd X jd_L_law_516 ?_
                          refine j_xld X hX hbb jd_L_law_517 h (fun h => ?_)
                          refine j_callVi (As := [.int (xs (j_ix (x3 + 1)))]) (st := []) (c0 := 0) X h jc_G js_0 (j_lt rfl hn) ⟨jqc_G_minutes, jqi_G_minutes, jqv_G_minutes, jqn_G⟩ jlm_L_56 jh_G_minutes rfl (by decide) (by decide) (Nat.le_of_ble_eq_true rfl) ⟨Nat.le_of_ble_eq_true rfl, Nat.le_of_ble_eq_true rfl⟩ (fun v0 I0 h => k_G_minutes (r := (v0, I0)) hF hn h) jd_L_law_518 rfl (fun v54 I55 h => ?_)
                          refine j_aload_n X jd_L_law_521 rfl rfl ?_
                          refine j_aload_n X jd_L_law_522 rfl rfl ?_
                          refine j_iload_n X jd_L_law_523 rfl rfl ?_
                          refine j_iconst (v := 1) X jd_L_law_524 (by decide) ?_
                          refine j_iadd X jd_L_law_525 ?_
                          refine j_xld X hX hbb jd_L_law_526 h (fun h => ?_)
                          refine j_callVi (As := [.int (xs (j_ix (x3 + 1)))]) (st := [.int v54]) (c0 := 215) X h jc_M js_215 (j_lt rfl hn) ⟨jqc_M_minutes, jqi_M_minutes, jqv_M_minutes, jqn_M⟩ jlm_L_59 jh_M_minutes rfl (by decide) (by decide) (Nat.le_of_ble_eq_true rfl) ⟨Nat.le_of_ble_eq_true rfl, Nat.le_of_ble_eq_true rfl⟩ (fun v0 I0 h => k_M_minutes (r := (v0, I0)) hF hn h) jd_L_law_527 rfl (fun v56 I57 h => ?_)
                          refine j_icmp_eq (tgt := 1230) X jd_L_law_530 rfl h (fun h => ?_) (fun h => ?_)
                          · exact k_L_law_1230 hF X hX hbb hbs hkb18 h hr1
                          · refine j_iconst (v := 0) X jd_L_law_533 (by decide) ?_
                            exact j_lawret X hbs (Nat.le_of_ble_eq_true rfl) (Nat.le_of_ble_eq_true rfl) jd_L_law_534 h hr1
                        · refine j_ite h (fun e58 h => ?_) (fun e58 h => ?_)
                          · refine j_tableIn (tgt := 535) (off := 503) X jd_L_law_32 e58 (by decide) (by decide) (by decide) rfl ?_
                            refine j_aload_n X jd_L_law_535 rfl rfl ?_
                            refine j_aload_n X jd_L_law_536 rfl rfl ?_
                            refine j_iload_n X jd_L_law_537 rfl rfl ?_
                            refine j_iconst (v := 1) X jd_L_law_538 (by decide) ?_
                            refine j_iadd X jd_L_law_539 ?_
                            refine j_xld X hX hbb jd_L_law_540 h (fun h => ?_)
                            refine j_callVi (As := [.int (xs (j_ix (x3 + 1)))]) (st := []) (c0 := 0) X h jc_G js_0 (j_lt rfl hn) ⟨jqc_G_lamp, jqi_G_lamp, jqv_G_lamp, jqn_G⟩ jlm_L_60 jh_G_lamp rfl (by decide) (by decide) (Nat.le_of_ble_eq_true rfl) ⟨Nat.le_of_ble_eq_true rfl, Nat.le_of_ble_eq_true rfl⟩ (fun v0 I0 h => k_G_lamp (r := (v0, I0)) hF hn h) jd_L_law_541 rfl (fun v59 I60 h => ?_)
                            refine j_aload_n X jd_L_law_544 rfl rfl ?_
                            refine j_aload_n X jd_L_law_545 rfl rfl ?_
                            refine j_iload_n X jd_L_law_546 rfl rfl ?_
                            refine j_iconst (v := 1) X jd_L_law_547 (by decide) ?_
                            refine j_iadd X jd_L_law_548 ?_
                            refine j_xld X hX hbb jd_L_law_549 h (fun h => ?_)
                            refine j_callVi (As := [.int (xs (j_ix (x3 + 1)))]) (st := [.int v59]) (c0 := 215) X h jc_M js_215 (j_lt rfl hn) ⟨jqc_M_lamp, jqi_M_lamp, jqv_M_lamp, jqn_M⟩ jlm_L_63 jh_M_lamp rfl (by decide) (by decide) (Nat.le_of_ble_eq_true rfl) ⟨Nat.le_of_ble_eq_true rfl, Nat.le_of_ble_eq_true rfl⟩ (fun v0 I0 h => k_M_lamp (r := (v0, I0)) hF hn h) jd_L_law_550 rfl (fun v61 I62 h => ?_)
                            refine j_icmp_eq (tgt := 1230) X jd_L_law_553 rfl h (fun h => ?_) (fun h => ?_)
                            · exact k_L_law_1230 hF X hX hbb hbs hkb18 h hr1
                            · refine j_iconst (v := 0) X jd_L_law_556 (by decide) ?_
                              exact j_lawret X hbs (Nat.le_of_ble_eq_true rfl) (Nat.le_of_ble_eq_true rfl) jd_L_law_557 h hr1
                          · refine j_ite h (fun e63 h => ?_) (fun e63 h => ?_)
                            · refine j_tableIn (tgt := 558) (off := 526) X jd_L_law_32 e63 (by decide) (by decide) (by decide) rfl ?_
                              refine j_aload_n X jd_L_law_558 rfl rfl ?_
                              refine j_aload_n X jd_L_law_559 rfl rfl ?_
                              refine j_iload_n X jd_L_law_560 rfl rfl ?_
                              refine j_iconst (v := 1) X jd_L_law_561 (by decide) ?_
                              refine j_iadd X jd_L_law_562 ?_
                              refine j_xld X hX hbb jd_L_law_563 h (fun h => ?_)
                              refine j_aload_n X jd_L_law_564 rfl rfl ?_
                              refine j_iload_n X jd_L_law_565 rfl rfl ?_
                              refine j_iconst (v := 2) X jd_L_law_566 (by decide) ?_
                              refine j_iadd X jd_L_law_567 ?_
                              refine j_xld X hX hbb jd_L_law_568 h (fun h => ?_)
                              refine j_aload_n X jd_L_law_569 rfl rfl ?_
                              refine j_iload_n X jd_L_law_570 rfl rfl ?_
                              refine j_iconst (v := 3) X jd_L_law_571 (by decide) ?_
                              refine j_iadd X jd_L_law_572 ?_
                              refine j_xld X hX hbb jd_L_law_573 h (fun h => ?_)
                              refine j_callVi (As := [.int (xs (j_ix (x3 + 1))), .int (xs (j_ix (x3 + 2))), .int (xs (j_ix (x3 + 3)))]) (st := []) (c0 := 0) X h jc_G js_0 (j_lt rfl hn) ⟨jqc_G_fuse, jqi_G_fuse, jqv_G_fuse, jqn_G⟩ jlm_L_64 jh_G_fuse rfl (by decide) (by decide) (Nat.le_of_ble_eq_true rfl) ⟨Nat.le_of_ble_eq_true rfl, Nat.le_of_ble_eq_true rfl⟩ (fun v0 I0 h => k_G_fuse (r := (v0, I0)) hF hn h) jd_L_law_574 rfl (fun v64 I65 h => ?_)
                              refine j_aload_n X jd_L_law_577 rfl rfl ?_
                              refine j_aload_n X jd_L_law_578 rfl rfl ?_
                              refine j_iload_n X jd_L_law_579 rfl rfl ?_
                              refine j_iconst (v := 1) X jd_L_law_580 (by decide) ?_
                              refine j_iadd X jd_L_law_581 ?_
                              refine j_xld X hX hbb jd_L_law_582 h (fun h => ?_)
                              refine j_aload_n X jd_L_law_583 rfl rfl ?_
                              refine j_iload_n X jd_L_law_584 rfl rfl ?_
                              refine j_iconst (v := 2) X jd_L_law_585 (by decide) ?_
                              refine j_iadd X jd_L_law_586 ?_
                              refine j_xld X hX hbb jd_L_law_587 h (fun h => ?_)
                              refine j_aload_n X jd_L_law_588 rfl rfl ?_
                              refine j_iload_n X jd_L_law_589 rfl rfl ?_
                              refine j_iconst (v := 3) X jd_L_law_590 (by decide) ?_
                              refine j_iadd X jd_L_law_591 ?_
                              refine j_xld X hX hbb jd_L_law_592 h (fun h => ?_)
                              refine j_callVi (As := [.int (xs (j_ix (x3 + 1))), .int (xs (j_ix (x3 + 2))), .int (xs (j_ix (x3 + 3)))]) (st := [.int v64]) (c0 := 215) X h jc_M js_215 (j_lt rfl hn) ⟨jqc_M_fuse, jqi_M_fuse, jqv_M_fuse, jqn_M⟩ jlm_L_67 jh_M_fuse rfl (by decide) (by decide) (Nat.le_of_ble_eq_true rfl) ⟨Nat.le_of_ble_eq_true rfl, Nat.le_of_ble_eq_true rfl⟩ (fun v0 I0 h => k_M_fuse (r := (v0, I0)) hF hn h) jd_L_law_593 rfl (fun v66 I67 h => ?_)
                              refine j_icmp_eq (tgt := 1230) X jd_L_law_596 rfl h (fun h => ?_) (fun h => ?_)
                              · exact k_L_law_1230 hF X hX hbb hbs hkb18 h hr1
                              · refine j_iconst (v := 0) X jd_L_law_599 (by decide) ?_
                                exact j_lawret X hbs (Nat.le_of_ble_eq_true rfl) (Nat.le_of_ble_eq_true rfl) jd_L_law_600 h hr1
                            · refine j_ite h (fun e68 h => ?_) (fun e68 h => ?_)
                              · refine j_tableIn (tgt := 601) (off := 569) X jd_L_law_32 e68 (by decide) (by decide) (by decide) rfl ?_
                                refine j_aload_n X jd_L_law_601 rfl rfl ?_
                                refine j_aload_n X jd_L_law_602 rfl rfl ?_
                                refine j_iload_n X jd_L_law_603 rfl rfl ?_
                                refine j_iconst (v := 1) X jd_L_law_604 (by decide) ?_
                                refine j_iadd X jd_L_law_605 ?_
                                refine j_xld X hX hbb jd_L_law_606 h (fun h => ?_)
                                refine j_aload_n X jd_L_law_607 rfl rfl ?_
                                refine j_iload_n X jd_L_law_608 rfl rfl ?_
                                refine j_iconst (v := 2) X jd_L_law_609 (by decide) ?_
                                refine j_iadd X jd_L_law_610 ?_
                                refine j_xld X hX hbb jd_L_law_611 h (fun h => ?_)
                                refine j_callVi (As := [.int (xs (j_ix (x3 + 1))), .int (xs (j_ix (x3 + 2)))]) (st := []) (c0 := 0) X h jc_G js_0 (j_lt rfl hn) ⟨jqc_G_light, jqi_G_light, jqv_G_light, jqn_G⟩ jlm_L_68 jh_G_light rfl (by decide) (by decide) (Nat.le_of_ble_eq_true rfl) ⟨Nat.le_of_ble_eq_true rfl, Nat.le_of_ble_eq_true rfl⟩ (fun v0 I0 h => k_G_light (r := (v0, I0)) hF hn h) jd_L_law_612 rfl (fun v69 I70 h => ?_)
                                refine j_aload_n X jd_L_law_615 rfl rfl ?_
                                refine j_aload_n X jd_L_law_616 rfl rfl ?_
                                refine j_iload_n X jd_L_law_617 rfl rfl ?_
                                refine j_iconst (v := 1) X jd_L_law_618 (by decide) ?_
                                refine j_iadd X jd_L_law_619 ?_
                                refine j_xld X hX hbb jd_L_law_620 h (fun h => ?_)
                                refine j_aload_n X jd_L_law_621 rfl rfl ?_
                                refine j_iload_n X jd_L_law_622 rfl rfl ?_
                                refine j_iconst (v := 2) X jd_L_law_623 (by decide) ?_
                                refine j_iadd X jd_L_law_624 ?_
                                refine j_xld X hX hbb jd_L_law_625 h (fun h => ?_)
                                refine j_callVi (As := [.int (xs (j_ix (x3 + 1))), .int (xs (j_ix (x3 + 2)))]) (st := [.int v69]) (c0 := 215) X h jc_M js_215 (j_lt rfl hn) ⟨jqc_M_light, jqi_M_light, jqv_M_light, jqn_M⟩ jlm_L_71 jh_M_light rfl (by decide) (by decide) (Nat.le_of_ble_eq_true rfl) ⟨Nat.le_of_ble_eq_true rfl, Nat.le_of_ble_eq_true rfl⟩ (fun v0 I0 h => k_M_light (r := (v0, I0)) hF hn h) jd_L_law_626 rfl (fun v71 I72 h => ?_)
                                refine j_icmp_eq (tgt := 1230) X jd_L_law_629 rfl h (fun h => ?_) (fun h => ?_)
                                · exact k_L_law_1230 hF X hX hbb hbs hkb18 h hr1
                                · refine j_iconst (v := 0) X jd_L_law_632 (by decide) ?_
                                  exact j_lawret X hbs (Nat.le_of_ble_eq_true rfl) (Nat.le_of_ble_eq_true rfl) jd_L_law_633 h hr1
                              · refine j_ite h (fun e73 h => ?_) (fun e73 h => ?_)
                                · refine j_tableIn (tgt := 634) (off := 602) X jd_L_law_32 e73 (by decide) (by decide) (by decide) rfl ?_
                                  refine j_aload_n X jd_L_law_634 rfl rfl ?_
                                  refine j_aload_n X jd_L_law_635 rfl rfl ?_
                                  refine j_iload_n X jd_L_law_636 rfl rfl ?_
                                  refine j_iconst (v := 1) X jd_L_law_637 (by decide) ?_
                                  refine j_iadd X jd_L_law_638 ?_
                                  refine j_xld X hX hbb jd_L_law_639 h (fun h => ?_)
                                  refine j_callVi (As := [.int (xs (j_ix (x3 + 1)))]) (st := []) (c0 := 0) X h jc_G js_0 (j_lt rfl hn) ⟨jqc_G_burns, jqi_G_burns, jqv_G_burns, jqn_G⟩ jlm_L_72 jh_G_burns rfl (by decide) (by decide) (Nat.le_of_ble_eq_true rfl) ⟨Nat.le_of_ble_eq_true rfl, Nat.le_of_ble_eq_true rfl⟩ (fun v0 I0 h => k_G_burns (r := (v0, I0)) hF hn h) jd_L_law_640 rfl (fun v74 I75 h => ?_)
                                  refine j_aload_n X jd_L_law_643 rfl rfl ?_
                                  refine j_aload_n X jd_L_law_644 rfl rfl ?_
                                  refine j_iload_n X jd_L_law_645 rfl rfl ?_
                                  refine j_iconst (v := 1) X jd_L_law_646 (by decide) ?_
                                  refine j_iadd X jd_L_law_647 ?_
                                  refine j_xld X hX hbb jd_L_law_648 h (fun h => ?_)
                                  refine j_callVi (As := [.int (xs (j_ix (x3 + 1)))]) (st := [.int v74]) (c0 := 215) X h jc_M js_215 (j_lt rfl hn) ⟨jqc_M_burns, jqi_M_burns, jqv_M_burns, jqn_M⟩ jlm_L_75 jh_M_burns rfl (by decide) (by decide) (Nat.le_of_ble_eq_true rfl) ⟨Nat.le_of_ble_eq_true rfl, Nat.le_of_ble_eq_true rfl⟩ (fun v0 I0 h => k_M_burns (r := (v0, I0)) hF hn h) jd_L_law_649 rfl (fun v76 I77 h => ?_)
                                  refine j_icmp_eq (tgt := 1230) X jd_L_law_652 rfl h (fun h => ?_) (fun h => ?_)
                                  · exact k_L_law_1230 hF X hX hbb hbs hkb18 h hr1
                                  · refine j_iconst (v := 0) X jd_L_law_655 (by decide) ?_
                                    exact j_lawret X hbs (Nat.le_of_ble_eq_true rfl) (Nat.le_of_ble_eq_true rfl) jd_L_law_656 h hr1
                                · refine j_ite h (fun e78 h => ?_) (fun e78 h => ?_)
                                  · refine j_tableIn (tgt := 657) (off := 625) X jd_L_law_32 e78 (by decide) (by decide) (by decide) rfl ?_
                                    refine j_aload_n X jd_L_law_657 rfl rfl ?_
                                    refine j_callVi (As := []) (st := []) (c0 := 0) X h jc_G js_0 (j_lt rfl hn) ⟨jqc_G_dark, jqi_G_dark, jqv_G_dark, jqn_G⟩ jlm_L_76 jh_G_dark rfl (by decide) (by decide) (Nat.le_of_ble_eq_true rfl) ⟨Nat.le_of_ble_eq_true rfl, Nat.le_of_ble_eq_true rfl⟩ (fun v0 I0 h => k_G_dark (r := (v0, I0)) hF hn h) jd_L_law_658 rfl (fun v79 I80 h => ?_)
                                    refine j_aload_n X jd_L_law_661 rfl rfl ?_
                                    refine j_callVi (As := []) (st := [.int v79]) (c0 := 215) X h jc_M js_215 (j_lt rfl hn) ⟨jqc_M_dark, jqi_M_dark, jqv_M_dark, jqn_M⟩ jlm_L_80 jh_M_dark rfl (by decide) (by decide) (Nat.le_of_ble_eq_true rfl) ⟨Nat.le_of_ble_eq_true rfl, Nat.le_of_ble_eq_true rfl⟩ (fun v0 I0 h => k_M_dark (r := (v0, I0)) hF hn h) jd_L_law_662 rfl (fun v81 I82 h => ?_)
                                    refine j_icmp_eq (tgt := 1230) X jd_L_law_665 rfl h (fun h => ?_) (fun h => ?_)
                                    · exact k_L_law_1230 hF X hX hbb hbs hkb18 h hr1
                                    · refine j_iconst (v := 0) X jd_L_law_668 (by decide) ?_
                                      exact j_lawret X hbs (Nat.le_of_ble_eq_true rfl) (Nat.le_of_ble_eq_true rfl) jd_L_law_669 h hr1
                                  · refine j_ite h (fun e83 h => ?_) (fun e83 h => ?_)
                                    · refine j_tableIn (tgt := 670) (off := 638) X jd_L_law_32 e83 (by decide) (by decide) (by decide) rfl ?_
                                      refine j_aload_n X jd_L_law_670 rfl rfl ?_
                                      refine j_callVi (As := []) (st := []) (c0 := 0) X h jc_G js_0 (j_lt rfl hn) ⟨jqc_G_spent, jqi_G_spent, jqv_G_spent, jqn_G⟩ jlm_L_81 jh_G_spent rfl (by decide) (by decide) (Nat.le_of_ble_eq_true rfl) ⟨Nat.le_of_ble_eq_true rfl, Nat.le_of_ble_eq_true rfl⟩ (fun v0 I0 h => k_G_spent (r := (v0, I0)) hF hn h) jd_L_law_671 rfl (fun v84 I85 h => ?_)
                                      refine j_aload_n X jd_L_law_674 rfl rfl ?_
                                      refine j_callVi (As := []) (st := [.int v84]) (c0 := 215) X h jc_M js_215 (j_lt rfl hn) ⟨jqc_M_spent, jqi_M_spent, jqv_M_spent, jqn_M⟩ jlm_L_84 jh_M_spent rfl (by decide) (by decide) (Nat.le_of_ble_eq_true rfl) ⟨Nat.le_of_ble_eq_true rfl, Nat.le_of_ble_eq_true rfl⟩ (fun v0 I0 h => k_M_spent (r := (v0, I0)) hF hn h) jd_L_law_675 rfl (fun v86 I87 h => ?_)
                                      refine j_icmp_eq (tgt := 1230) X jd_L_law_678 rfl h (fun h => ?_) (fun h => ?_)
                                      · exact k_L_law_1230 hF X hX hbb hbs hkb18 h hr1
                                      · refine j_iconst (v := 0) X jd_L_law_681 (by decide) ?_
                                        exact j_lawret X hbs (Nat.le_of_ble_eq_true rfl) (Nat.le_of_ble_eq_true rfl) jd_L_law_682 h hr1
                                    · refine j_ite h (fun e88 h => ?_) (fun e88 h => ?_)
                                      · refine j_tableIn (tgt := 683) (off := 651) X jd_L_law_32 e88 (by decide) (by decide) (by decide) rfl ?_
                                        refine j_aload_n X jd_L_law_683 rfl rfl ?_
                                        refine j_aload_n X jd_L_law_684 rfl rfl ?_
                                        refine j_iload_n X jd_L_law_685 rfl rfl ?_
                                        refine j_iconst (v := 1) X jd_L_law_686 (by decide) ?_
                                        refine j_iadd X jd_L_law_687 ?_
                                        refine j_xld X hX hbb jd_L_law_688 h (fun h => ?_)
                                        refine j_callVi (As := [.int (xs (j_ix (x3 + 1)))]) (st := []) (c0 := 0) X h jc_G js_0 (j_lt rfl hn) ⟨jqc_G_best, jqi_G_best, jqv_G_best, jqn_G⟩ jlm_L_85 jh_G_best rfl (by decide) (by decide) (Nat.le_of_ble_eq_true rfl) ⟨Nat.le_of_ble_eq_true rfl, Nat.le_of_ble_eq_true rfl⟩ (fun v0 I0 h => k_G_best (r := (v0, I0)) hF hn h) jd_L_law_689 rfl (fun v89 I90 h => ?_)
                                        refine j_aload_n X jd_L_law_692 rfl rfl ?_
                                        refine j_aload_n X jd_L_law_693 rfl rfl ?_
                                        refine j_iload_n X jd_L_law_694 rfl rfl ?_
                                        refine j_iconst (v := 1) X jd_L_law_695 (by decide) ?_
                                        refine j_iadd X jd_L_law_696 ?_
                                        refine j_xld X hX hbb jd_L_law_697 h (fun h => ?_)
                                        refine j_callVi (As := [.int (xs (j_ix (x3 + 1)))]) (st := [.int v89]) (c0 := 215) X h jc_M js_215 (j_lt rfl hn) ⟨jqc_M_best, jqi_M_best, jqv_M_best, jqn_M⟩ jlm_L_88 jh_M_best rfl (by decide) (by decide) (Nat.le_of_ble_eq_true rfl) ⟨Nat.le_of_ble_eq_true rfl, Nat.le_of_ble_eq_true rfl⟩ (fun v0 I0 h => k_M_best (r := (v0, I0)) hF hn h) jd_L_law_698 rfl (fun v91 I92 h => ?_)
                                        refine j_icmp_eq (tgt := 1230) X jd_L_law_701 rfl h (fun h => ?_) (fun h => ?_)
                                        · exact k_L_law_1230 hF X hX hbb hbs hkb18 h hr1
                                        · refine j_iconst (v := 0) X jd_L_law_704 (by decide) ?_
                                          exact j_lawret X hbs (Nat.le_of_ble_eq_true rfl) (Nat.le_of_ble_eq_true rfl) jd_L_law_705 h hr1
                                      · refine j_ite h (fun e93 h => ?_) (fun e93 h => ?_)
                                        · refine j_tableIn (tgt := 706) (off := 674) X jd_L_law_32 e93 (by decide) (by decide) (by decide) rfl ?_
                                          refine j_aload_n X jd_L_law_706 rfl rfl ?_
                                          refine j_aload_n X jd_L_law_707 rfl rfl ?_
                                          refine j_iload_n X jd_L_law_708 rfl rfl ?_
                                          refine j_iconst (v := 1) X jd_L_law_709 (by decide) ?_
                                          refine j_iadd X jd_L_law_710 ?_
                                          refine j_xld X hX hbb jd_L_law_711 h (fun h => ?_)
                                          refine j_aload_n X jd_L_law_712 rfl rfl ?_
                                          refine j_iload_n X jd_L_law_713 rfl rfl ?_
                                          refine j_iconst (v := 2) X jd_L_law_714 (by decide) ?_
                                          refine j_iadd X jd_L_law_715 ?_
                                          refine j_xld X hX hbb jd_L_law_716 h (fun h => ?_)
                                          refine j_callVi (As := [.int (xs (j_ix (x3 + 1))), .int (xs (j_ix (x3 + 2)))]) (st := []) (c0 := 0) X h jc_G js_0 (j_lt rfl hn) ⟨jqc_G_box, jqi_G_box, jqv_G_box, jqn_G⟩ jlm_L_89 jh_G_box rfl (by decide) (by decide) (Nat.le_of_ble_eq_true rfl) ⟨Nat.le_of_ble_eq_true rfl, Nat.le_of_ble_eq_true rfl⟩ (fun v0 I0 h => k_G_box (r := (v0, I0)) hF hn h) jd_L_law_717 rfl (fun v94 I95 h => ?_)
                                          refine j_aload_n X jd_L_law_720 rfl rfl ?_
                                          refine j_aload_n X jd_L_law_721 rfl rfl ?_
                                          refine j_iload_n X jd_L_law_722 rfl rfl ?_
                                          refine j_iconst (v := 1) X jd_L_law_723 (by decide) ?_
                                          refine j_iadd X jd_L_law_724 ?_
                                          refine j_xld X hX hbb jd_L_law_725 h (fun h => ?_)
                                          refine j_aload_n X jd_L_law_726 rfl rfl ?_
                                          refine j_iload_n X jd_L_law_727 rfl rfl ?_
                                          refine j_iconst (v := 2) X jd_L_law_728 (by decide) ?_
                                          refine j_iadd X jd_L_law_729 ?_
                                          refine j_xld X hX hbb jd_L_law_730 h (fun h => ?_)
                                          refine j_callVi (As := [.int (xs (j_ix (x3 + 1))), .int (xs (j_ix (x3 + 2)))]) (st := [.int v94]) (c0 := 215) X h jc_M js_215 (j_lt rfl hn) ⟨jqc_M_box, jqi_M_box, jqv_M_box, jqn_M⟩ jlm_L_92 jh_M_box rfl (by decide) (by decide) (Nat.le_of_ble_eq_true rfl) ⟨Nat.le_of_ble_eq_true rfl, Nat.le_of_ble_eq_true rfl⟩ (fun v0 I0 h => k_M_box (r := (v0, I0)) hF hn h) jd_L_law_731 rfl (fun v96 I97 h => ?_)
                                          refine j_icmp_eq (tgt := 1230) X jd_L_law_734 rfl h (fun h => ?_) (fun h => ?_)
                                          · exact k_L_law_1230 hF X hX hbb hbs hkb18 h hr1
                                          · refine j_iconst (v := 0) X jd_L_law_737 (by decide) ?_
                                            exact j_lawret X hbs (Nat.le_of_ble_eq_true rfl) (Nat.le_of_ble_eq_true rfl) jd_L_law_738 h hr1
                                        · refine j_ite h (fun e98 h => ?_) (fun e98 h => ?_)
                                          · refine j_tableIn (tgt := 739) (off := 707) X jd_L_law_32 e98 (by decide) (by decide) (by decide) rfl ?_
                                            refine j_aload_n X jd_L_law_739 rfl rfl ?_
                                            refine j_aload_n X jd_L_law_740 rfl rfl ?_
                                            refine j_iload_n X jd_L_law_741 rfl rfl ?_
                                            refine j_iconst (v := 1) X jd_L_law_742 (by decide) ?_
                                            refine j_iadd X jd_L_law_743 ?_
                                            refine j_xld X hX hbb jd_L_law_744 h (fun h => ?_)
                                            refine j_aload_n X jd_L_law_745 rfl rfl ?_
                                            refine j_iload_n X jd_L_law_746 rfl rfl ?_
                                            refine j_iconst (v := 2) X jd_L_law_747 (by decide) ?_
                                            refine j_iadd X jd_L_law_748 ?_
                                            refine j_xld X hX hbb jd_L_law_749 h (fun h => ?_)
                                            refine j_callVi (As := [.int (xs (j_ix (x3 + 1))), .int (xs (j_ix (x3 + 2)))]) (st := []) (c0 := 0) X h jc_G js_0 (j_lt rfl hn) ⟨jqc_G_let, jqi_G_let, jqv_G_let, jqn_G⟩ jlm_L_93 jh_G_let rfl (by decide) (by decide) (Nat.le_of_ble_eq_true rfl) ⟨Nat.le_of_ble_eq_true rfl, Nat.le_of_ble_eq_true rfl⟩ (fun v0 I0 h => k_G_let (r := (v0, I0)) hF hn h) jd_L_law_750 rfl (fun v99 I100 h => ?_)
                                            refine j_aload_n X jd_L_law_753 rfl rfl ?_
                                            refine j_aload_n X jd_L_law_754 rfl rfl ?_
                                            refine j_iload_n X jd_L_law_755 rfl rfl ?_
                                            refine j_iconst (v := 1) X jd_L_law_756 (by decide) ?_
                                            refine j_iadd X jd_L_law_757 ?_
                                            refine j_xld X hX hbb jd_L_law_758 h (fun h => ?_)
                                            refine j_aload_n X jd_L_law_759 rfl rfl ?_
                                            refine j_iload_n X jd_L_law_760 rfl rfl ?_
                                            refine j_iconst (v := 2) X jd_L_law_761 (by decide) ?_
                                            refine j_iadd X jd_L_law_762 ?_
                                            refine j_xld X hX hbb jd_L_law_763 h (fun h => ?_)
                                            refine j_callVi (As := [.int (xs (j_ix (x3 + 1))), .int (xs (j_ix (x3 + 2)))]) (st := [.int v99]) (c0 := 215) X h jc_M js_215 (j_lt rfl hn) ⟨jqc_M_let, jqi_M_let, jqv_M_let, jqn_M⟩ jlm_L_96 jh_M_let rfl (by decide) (by decide) (Nat.le_of_ble_eq_true rfl) ⟨Nat.le_of_ble_eq_true rfl, Nat.le_of_ble_eq_true rfl⟩ (fun v0 I0 h => k_M_let (r := (v0, I0)) hF hn h) jd_L_law_764 rfl (fun v101 I102 h => ?_)
                                            refine j_icmp_eq (tgt := 1230) X jd_L_law_767 rfl h (fun h => ?_) (fun h => ?_)
                                            · exact k_L_law_1230 hF X hX hbb hbs hkb18 h hr1
                                            · refine j_iconst (v := 0) X jd_L_law_770 (by decide) ?_
                                              exact j_lawret X hbs (Nat.le_of_ble_eq_true rfl) (Nat.le_of_ble_eq_true rfl) jd_L_law_771 h hr1
                                          · refine j_ite h (fun e103 h => ?_) (fun e103 h => ?_)
                                            · refine j_tableIn (tgt := 772) (off := 740) X jd_L_law_32 e103 (by decide) (by decide) (by decide) rfl ?_
                                              refine j_aload_n X jd_L_law_772 rfl rfl ?_
                                              refine j_aload_n X jd_L_law_773 rfl rfl ?_
                                              refine j_iload_n X jd_L_law_774 rfl rfl ?_
                                              refine j_iconst (v := 1) X jd_L_law_775 (by decide) ?_
                                              refine j_iadd X jd_L_law_776 ?_
                                              refine j_xld X hX hbb jd_L_law_777 h (fun h => ?_)
                                              refine j_callVi (As := [.int (xs (j_ix (x3 + 1)))]) (st := []) (c0 := 0) X h jc_G js_0 (j_lt rfl hn) ⟨jqc_G_rise, jqi_G_rise, jqv_G_rise, jqn_G⟩ jlm_L_97 jh_G_rise rfl (by decide) (by decide) (Nat.le_of_ble_eq_true rfl) ⟨Nat.le_of_ble_eq_true rfl, Nat.le_of_ble_eq_true rfl⟩ (fun v0 I0 h => k_G_rise (r := (v0, I0)) hF hn h) jd_L_law_778 rfl (fun v104 I105 h => ?_)
                                              refine j_aload_n X jd_L_law_781 rfl rfl ?_
                                              refine j_aload_n X jd_L_law_782 rfl rfl ?_
                                              refine j_iload_n X jd_L_law_783 rfl rfl ?_
                                              refine j_iconst (v := 1) X jd_L_law_784 (by decide) ?_
                                              refine j_iadd X jd_L_law_785 ?_
                                              refine j_xld X hX hbb jd_L_law_786 h (fun h => ?_)
                                              refine j_callVi (As := [.int (xs (j_ix (x3 + 1)))]) (st := [.int v104]) (c0 := 215) X h jc_M js_215 (j_lt rfl hn) ⟨jqc_M_rise, jqi_M_rise, jqv_M_rise, jqn_M⟩ jlm_L_100 jh_M_rise rfl (by decide) (by decide) (Nat.le_of_ble_eq_true rfl) ⟨Nat.le_of_ble_eq_true rfl, Nat.le_of_ble_eq_true rfl⟩ (fun v0 I0 h => k_M_rise (r := (v0, I0)) hF hn h) jd_L_law_787 rfl (fun v106 I107 h => ?_)
                                              refine j_icmp_eq (tgt := 1230) X jd_L_law_790 rfl h (fun h => ?_) (fun h => ?_)
                                              · exact k_L_law_1230 hF X hX hbb hbs hkb18 h hr1
                                              · refine j_iconst (v := 0) X jd_L_law_793 (by decide) ?_
                                                exact j_lawret X hbs (Nat.le_of_ble_eq_true rfl) (Nat.le_of_ble_eq_true rfl) jd_L_law_794 h hr1
                                            · refine j_ite h (fun e108 h => ?_) (fun e108 h => ?_)
                                              · refine j_tableIn (tgt := 795) (off := 763) X jd_L_law_32 e108 (by decide) (by decide) (by decide) rfl ?_
                                                refine j_aload_n X jd_L_law_795 rfl rfl ?_
                                                refine j_aload_n X jd_L_law_796 rfl rfl ?_
                                                refine j_iload_n X jd_L_law_797 rfl rfl ?_
                                                refine j_iconst (v := 1) X jd_L_law_798 (by decide) ?_
                                                refine j_iadd X jd_L_law_799 ?_
                                                refine j_xld X hX hbb jd_L_law_800 h (fun h => ?_)
                                                refine j_callVi (As := [.int (xs (j_ix (x3 + 1)))]) (st := []) (c0 := 0) X h jc_G js_0 (j_lt rfl hn) ⟨jqc_G_in, jqi_G_in, jqv_G_in, jqn_G⟩ jlm_L_101 jh_G_in rfl (by decide) (by decide) (Nat.le_of_ble_eq_true rfl) ⟨Nat.le_of_ble_eq_true rfl, Nat.le_of_ble_eq_true rfl⟩ (fun v0 I0 h => k_G_in (r := (v0, I0)) hF hn h) jd_L_law_801 rfl (fun v109 I110 h => ?_)
                                                refine j_aload_n X jd_L_law_804 rfl rfl ?_
                                                refine j_aload_n X jd_L_law_805 rfl rfl ?_
                                                refine j_iload_n X jd_L_law_806 rfl rfl ?_
                                                refine j_iconst (v := 1) X jd_L_law_807 (by decide) ?_
                                                refine j_iadd X jd_L_law_808 ?_
                                                refine j_xld X hX hbb jd_L_law_809 h (fun h => ?_)
                                                refine j_callVi (As := [.int (xs (j_ix (x3 + 1)))]) (st := [.int v109]) (c0 := 215) X h jc_M js_215 (j_lt rfl hn) ⟨jqc_M_in, jqi_M_in, jqv_M_in, jqn_M⟩ jlm_L_104 jh_M_in rfl (by decide) (by decide) (Nat.le_of_ble_eq_true rfl) ⟨Nat.le_of_ble_eq_true rfl, Nat.le_of_ble_eq_true rfl⟩ (fun v0 I0 h => k_M_in (r := (v0, I0)) hF hn h) jd_L_law_810 rfl (fun v111 I112 h => ?_)
                                                refine j_icmp_eq (tgt := 1230) X jd_L_law_813 rfl h (fun h => ?_) (fun h => ?_)
                                                · exact k_L_law_1230 hF X hX hbb hbs hkb18 h hr1
                                                · refine j_iconst (v := 0) X jd_L_law_816 (by decide) ?_
                                                  exact j_lawret X hbs (Nat.le_of_ble_eq_true rfl) (Nat.le_of_ble_eq_true rfl) jd_L_law_817 h hr1
                                              · refine j_ite h (fun e113 h => ?_) (fun e113 h => ?_)
                                                · refine j_tableIn (tgt := 818) (off := 786) X jd_L_law_32 e113 (by decide) (by decide) (by decide) rfl ?_
                                                  refine j_aload_n X jd_L_law_818 rfl rfl ?_
                                                  refine j_aload_n X jd_L_law_819 rfl rfl ?_
                                                  refine j_iload_n X jd_L_law_820 rfl rfl ?_
                                                  refine j_iconst (v := 1) X jd_L_law_821 (by decide) ?_
                                                  refine j_iadd X jd_L_law_822 ?_
                                                  refine j_xld X hX hbb jd_L_law_823 h (fun h => ?_)
                                                  refine j_callVi (As := [.int (xs (j_ix (x3 + 1)))]) (st := []) (c0 := 0) X h jc_G js_0 (j_lt rfl hn) ⟨jqc_G_ham, jqi_G_ham, jqv_G_ham, jqn_G⟩ jlm_L_105 jh_G_ham rfl (by decide) (by decide) (Nat.le_of_ble_eq_true rfl) ⟨Nat.le_of_ble_eq_true rfl, Nat.le_of_ble_eq_true rfl⟩ (fun v0 I0 h => k_G_ham (r := (v0, I0)) hF hn h) jd_L_law_824 rfl (fun v114 I115 h => ?_)
                                                  refine j_aload_n X jd_L_law_827 rfl rfl ?_
                                                  refine j_aload_n X jd_L_law_828 rfl rfl ?_
                                                  refine j_iload_n X jd_L_law_829 rfl rfl ?_
                                                  refine j_iconst (v := 1) X jd_L_law_830 (by decide) ?_
                                                  refine j_iadd X jd_L_law_831 ?_
                                                  refine j_xld X hX hbb jd_L_law_832 h (fun h => ?_)
                                                  refine j_callVi (As := [.int (xs (j_ix (x3 + 1)))]) (st := [.int v114]) (c0 := 215) X h jc_M js_215 (j_lt rfl hn) ⟨jqc_M_ham, jqi_M_ham, jqv_M_ham, jqn_M⟩ jlm_L_108 jh_M_ham rfl (by decide) (by decide) (Nat.le_of_ble_eq_true rfl) ⟨Nat.le_of_ble_eq_true rfl, Nat.le_of_ble_eq_true rfl⟩ (fun v0 I0 h => k_M_ham (r := (v0, I0)) hF hn h) jd_L_law_833 rfl (fun v116 I117 h => ?_)
                                                  refine j_icmp_eq (tgt := 1230) X jd_L_law_836 rfl h (fun h => ?_) (fun h => ?_)
                                                  · exact k_L_law_1230 hF X hX hbb hbs hkb18 h hr1
                                                  · refine j_iconst (v := 0) X jd_L_law_839 (by decide) ?_
                                                    exact j_lawret X hbs (Nat.le_of_ble_eq_true rfl) (Nat.le_of_ble_eq_true rfl) jd_L_law_840 h hr1
                                                · refine j_ite h (fun e118 h => ?_) (fun e118 h => ?_)
                                                  · refine j_tableIn (tgt := 841) (off := 809) X jd_L_law_32 e118 (by decide) (by decide) (by decide) rfl ?_
                                                    refine j_aload_n X jd_L_law_841 rfl rfl ?_
                                                    refine j_aload_n X jd_L_law_842 rfl rfl ?_
                                                    refine j_iload_n X jd_L_law_843 rfl rfl ?_
                                                    refine j_iconst (v := 1) X jd_L_law_844 (by decide) ?_
                                                    refine j_iadd X jd_L_law_845 ?_
                                                    refine j_xld X hX hbb jd_L_law_846 h (fun h => ?_)
                                                    refine j_aload_n X jd_L_law_847 rfl rfl ?_
                                                    refine j_iload_n X jd_L_law_848 rfl rfl ?_
                                                    refine j_iconst (v := 2) X jd_L_law_849 (by decide) ?_
                                                    refine j_iadd X jd_L_law_850 ?_
                                                    refine j_xld X hX hbb jd_L_law_851 h (fun h => ?_)
                                                    refine j_callVi (As := [.int (xs (j_ix (x3 + 1))), .int (xs (j_ix (x3 + 2)))]) (st := []) (c0 := 0) X h jc_G js_0 (j_lt rfl hn) ⟨jqc_G_rule, jqi_G_rule, jqv_G_rule, jqn_G⟩ jlm_L_109 jh_G_rule rfl (by decide) (by decide) (Nat.le_of_ble_eq_true rfl) ⟨Nat.le_of_ble_eq_true rfl, Nat.le_of_ble_eq_true rfl⟩ (fun v0 I0 h => k_G_rule (r := (v0, I0)) hF hn h) jd_L_law_852 rfl (fun v119 I120 h => ?_)
                                                    refine j_aload_n X jd_L_law_855 rfl rfl ?_
                                                    refine j_aload_n X jd_L_law_856 rfl rfl ?_
                                                    refine j_iload_n X jd_L_law_857 rfl rfl ?_
                                                    refine j_iconst (v := 1) X jd_L_law_858 (by decide) ?_
                                                    refine j_iadd X jd_L_law_859 ?_
                                                    refine j_xld X hX hbb jd_L_law_860 h (fun h => ?_)
                                                    refine j_aload_n X jd_L_law_861 rfl rfl ?_
                                                    refine j_iload_n X jd_L_law_862 rfl rfl ?_
                                                    refine j_iconst (v := 2) X jd_L_law_863 (by decide) ?_
                                                    refine j_iadd X jd_L_law_864 ?_
                                                    refine j_xld X hX hbb jd_L_law_865 h (fun h => ?_)
                                                    refine j_callVi (As := [.int (xs (j_ix (x3 + 1))), .int (xs (j_ix (x3 + 2)))]) (st := [.int v119]) (c0 := 215) X h jc_M js_215 (j_lt rfl hn) ⟨jqc_M_rule, jqi_M_rule, jqv_M_rule, jqn_M⟩ jlm_L_112 jh_M_rule rfl (by decide) (by decide) (Nat.le_of_ble_eq_true rfl) ⟨Nat.le_of_ble_eq_true rfl, Nat.le_of_ble_eq_true rfl⟩ (fun v0 I0 h => k_M_rule (r := (v0, I0)) hF hn h) jd_L_law_866 rfl (fun v121 I122 h => ?_)
                                                    refine j_icmp_eq (tgt := 1230) X jd_L_law_869 rfl h (fun h => ?_) (fun h => ?_)
                                                    · exact k_L_law_1230 hF X hX hbb hbs hkb18 h hr1
                                                    · refine j_iconst (v := 0) X jd_L_law_872 (by decide) ?_
                                                      exact j_lawret X hbs (Nat.le_of_ble_eq_true rfl) (Nat.le_of_ble_eq_true rfl) jd_L_law_873 h hr1
                                                  · refine j_ite h (fun e123 h => ?_) (fun e123 h => ?_)
                                                    · refine j_tableIn (tgt := 874) (off := 842) X jd_L_law_32 e123 (by decide) (by decide) (by decide) rfl ?_
                                                      refine j_aload_n X jd_L_law_874 rfl rfl ?_
                                                      refine j_aload_n X jd_L_law_875 rfl rfl ?_
                                                      refine j_iload_n X jd_L_law_876 rfl rfl ?_
                                                      refine j_iconst (v := 1) X jd_L_law_877 (by decide) ?_
                                                      refine j_iadd X jd_L_law_878 ?_
                                                      refine j_xld X hX hbb jd_L_law_879 h (fun h => ?_)
                                                      refine j_aload_n X jd_L_law_880 rfl rfl ?_
                                                      refine j_iload_n X jd_L_law_881 rfl rfl ?_
                                                      refine j_iconst (v := 2) X jd_L_law_882 (by decide) ?_
                                                      refine j_iadd X jd_L_law_883 ?_
                                                      refine j_xld X hX hbb jd_L_law_884 h (fun h => ?_)
                                                      refine j_callVi (As := [.int (xs (j_ix (x3 + 1))), .int (xs (j_ix (x3 + 2)))]) (st := []) (c0 := 0) X h jc_G js_0 (j_lt rfl hn) ⟨jqc_G_order, jqi_G_order, jqv_G_order, jqn_G⟩ jlm_L_113 jh_G_order rfl (by decide) (by decide) (Nat.le_of_ble_eq_true rfl) ⟨Nat.le_of_ble_eq_true rfl, Nat.le_of_ble_eq_true rfl⟩ (fun v0 I0 h => k_G_order (r := (v0, I0)) hF hn h) jd_L_law_885 rfl (fun v124 I125 h => ?_)
                                                      refine j_aload_n X jd_L_law_888 rfl rfl ?_
                                                      refine j_aload_n X jd_L_law_889 rfl rfl ?_
                                                      refine j_iload_n X jd_L_law_890 rfl rfl ?_
                                                      refine j_iconst (v := 1) X jd_L_law_891 (by decide) ?_
                                                      refine j_iadd X jd_L_law_892 ?_
                                                      refine j_xld X hX hbb jd_L_law_893 h (fun h => ?_)
                                                      refine j_aload_n X jd_L_law_894 rfl rfl ?_
                                                      refine j_iload_n X jd_L_law_895 rfl rfl ?_
                                                      refine j_iconst (v := 2) X jd_L_law_896 (by decide) ?_
                                                      refine j_iadd X jd_L_law_897 ?_
                                                      refine j_xld X hX hbb jd_L_law_898 h (fun h => ?_)
                                                      refine j_callVi (As := [.int (xs (j_ix (x3 + 1))), .int (xs (j_ix (x3 + 2)))]) (st := [.int v124]) (c0 := 215) X h jc_M js_215 (j_lt rfl hn) ⟨jqc_M_order, jqi_M_order, jqv_M_order, jqn_M⟩ jlm_L_116 jh_M_order rfl (by decide) (by decide) (Nat.le_of_ble_eq_true rfl) ⟨Nat.le_of_ble_eq_true rfl, Nat.le_of_ble_eq_true rfl⟩ (fun v0 I0 h => k_M_order (r := (v0, I0)) hF hn h) jd_L_law_899 rfl (fun v126 I127 h => ?_)
                                                      refine j_icmp_eq (tgt := 1230) X jd_L_law_902 rfl h (fun h => ?_) (fun h => ?_)
                                                      · exact k_L_law_1230 hF X hX hbb hbs hkb18 h hr1
                                                      · refine j_iconst (v := 0) X jd_L_law_905 (by decide) ?_
                                                        exact j_lawret X hbs (Nat.le_of_ble_eq_true rfl) (Nat.le_of_ble_eq_true rfl) jd_L_law_906 h hr1
                                                    · refine j_ite h (fun e128 h => ?_) (fun e128 h => ?_)
                                                      · refine j_tableIn (tgt := 907) (off := 875) X jd_L_law_32 e128 (by decide) (by decide) (by decide) rfl ?_
                                                        refine j_aload_n X jd_L_law_907 rfl rfl ?_
                                                        refine j_aload_n X jd_L_law_908 rfl rfl ?_
                                                        refine j_iload_n X jd_L_law_909 rfl rfl ?_
                                                        refine j_iconst (v := 1) X jd_L_law_910 (by decide) ?_
                                                        refine j_iadd X jd_L_law_911 ?_
                                                        refine j_xld X hX hbb jd_L_law_912 h (fun h => ?_)
                                                        refine j_aload_n X jd_L_law_913 rfl rfl ?_
                                                        refine j_iload_n X jd_L_law_914 rfl rfl ?_
                                                        refine j_iconst (v := 2) X jd_L_law_915 (by decide) ?_
                                                        refine j_iadd X jd_L_law_916 ?_
                                                        refine j_xld X hX hbb jd_L_law_917 h (fun h => ?_)
                                                        refine j_callVi (As := [.int (xs (j_ix (x3 + 1))), .int (xs (j_ix (x3 + 2)))]) (st := []) (c0 := 0) X h jc_G js_0 (j_lt rfl hn) ⟨jqc_G_feed, jqi_G_feed, jqv_G_feed, jqn_G⟩ jlm_L_117 jh_G_feed rfl (by decide) (by decide) (Nat.le_of_ble_eq_true rfl) ⟨Nat.le_of_ble_eq_true rfl, Nat.le_of_ble_eq_true rfl⟩ (fun v0 I0 h => k_G_feed (r := (v0, I0)) hF hn h) jd_L_law_918 rfl (fun v129 I130 h => ?_)
                                                        refine j_aload_n X jd_L_law_921 rfl rfl ?_
                                                        refine j_aload_n X jd_L_law_922 rfl rfl ?_
                                                        refine j_iload_n X jd_L_law_923 rfl rfl ?_
                                                        refine j_iconst (v := 1) X jd_L_law_924 (by decide) ?_
                                                        refine j_iadd X jd_L_law_925 ?_
                                                        refine j_xld X hX hbb jd_L_law_926 h (fun h => ?_)
                                                        refine j_aload_n X jd_L_law_927 rfl rfl ?_
                                                        refine j_iload_n X jd_L_law_928 rfl rfl ?_
                                                        refine j_iconst (v := 2) X jd_L_law_929 (by decide) ?_
                                                        refine j_iadd X jd_L_law_930 ?_
                                                        refine j_xld X hX hbb jd_L_law_931 h (fun h => ?_)
                                                        refine j_callVi (As := [.int (xs (j_ix (x3 + 1))), .int (xs (j_ix (x3 + 2)))]) (st := [.int v129]) (c0 := 215) X h jc_M js_215 (j_lt rfl hn) ⟨jqc_M_feed, jqi_M_feed, jqv_M_feed, jqn_M⟩ jlm_L_120 jh_M_feed rfl (by decide) (by decide) (Nat.le_of_ble_eq_true rfl) ⟨Nat.le_of_ble_eq_true rfl, Nat.le_of_ble_eq_true rfl⟩ (fun v0 I0 h => k_M_feed (r := (v0, I0)) hF hn h) jd_L_law_932 rfl (fun v131 I132 h => ?_)
                                                        refine j_icmp_eq (tgt := 1230) X jd_L_law_935 rfl h (fun h => ?_) (fun h => ?_)
                                                        · exact k_L_law_1230 hF X hX hbb hbs hkb18 h hr1
                                                        · refine j_iconst (v := 0) X jd_L_law_938 (by decide) ?_
                                                          exact j_lawret X hbs (Nat.le_of_ble_eq_true rfl) (Nat.le_of_ble_eq_true rfl) jd_L_law_939 h hr1
                                                      · refine j_ite h (fun e133 h => ?_) (fun e133 h => ?_)
                                                        · refine j_tableIn (tgt := 940) (off := 908) X jd_L_law_32 e133 (by decide) (by decide) (by decide) rfl ?_
                                                          refine j_aload_n X jd_L_law_940 rfl rfl ?_
                                                          refine j_aload_n X jd_L_law_941 rfl rfl ?_
                                                          refine j_iload_n X jd_L_law_942 rfl rfl ?_
                                                          refine j_iconst (v := 1) X jd_L_law_943 (by decide) ?_
                                                          refine j_iadd X jd_L_law_944 ?_
                                                          refine j_xld X hX hbb jd_L_law_945 h (fun h => ?_)
                                                          refine j_aload_n X jd_L_law_946 rfl rfl ?_
                                                          refine j_iload_n X jd_L_law_947 rfl rfl ?_
                                                          refine j_iconst (v := 2) X jd_L_law_948 (by decide) ?_
                                                          refine j_iadd X jd_L_law_949 ?_
                                                          refine j_xld X hX hbb jd_L_law_950 h (fun h => ?_)
                                                          refine j_callVi (As := [.int (xs (j_ix (x3 + 1))), .int (xs (j_ix (x3 + 2)))]) (st := []) (c0 := 0) X h jc_G js_0 (j_lt rfl hn) ⟨jqc_G_price, jqi_G_price, jqv_G_price, jqn_G⟩ jlm_L_121 jh_G_price rfl (by decide) (by decide) (Nat.le_of_ble_eq_true rfl) ⟨Nat.le_of_ble_eq_true rfl, Nat.le_of_ble_eq_true rfl⟩ (fun v0 I0 h => k_G_price (r := (v0, I0)) hF hn h) jd_L_law_951 rfl (fun v134 I135 h => ?_)
                                                          refine j_aload_n X jd_L_law_954 rfl rfl ?_
                                                          refine j_aload_n X jd_L_law_955 rfl rfl ?_
                                                          refine j_iload_n X jd_L_law_956 rfl rfl ?_
                                                          refine j_iconst (v := 1) X jd_L_law_957 (by decide) ?_
                                                          refine j_iadd X jd_L_law_958 ?_
                                                          refine j_xld X hX hbb jd_L_law_959 h (fun h => ?_)
                                                          refine j_aload_n X jd_L_law_960 rfl rfl ?_
                                                          refine j_iload_n X jd_L_law_961 rfl rfl ?_
                                                          refine j_iconst (v := 2) X jd_L_law_962 (by decide) ?_
                                                          refine j_iadd X jd_L_law_963 ?_
                                                          refine j_xld X hX hbb jd_L_law_964 h (fun h => ?_)
                                                          refine j_callVi (As := [.int (xs (j_ix (x3 + 1))), .int (xs (j_ix (x3 + 2)))]) (st := [.int v134]) (c0 := 215) X h jc_M js_215 (j_lt rfl hn) ⟨jqc_M_price, jqi_M_price, jqv_M_price, jqn_M⟩ jlm_L_124 jh_M_price rfl (by decide) (by decide) (Nat.le_of_ble_eq_true rfl) ⟨Nat.le_of_ble_eq_true rfl, Nat.le_of_ble_eq_true rfl⟩ (fun v0 I0 h => k_M_price (r := (v0, I0)) hF hn h) jd_L_law_965 rfl (fun v136 I137 h => ?_)
                                                          refine j_icmp_eq (tgt := 1230) X jd_L_law_968 rfl h (fun h => ?_) (fun h => ?_)
                                                          · exact k_L_law_1230 hF X hX hbb hbs hkb18 h hr1
                                                          · refine j_iconst (v := 0) X jd_L_law_971 (by decide) ?_
                                                            exact j_lawret X hbs (Nat.le_of_ble_eq_true rfl) (Nat.le_of_ble_eq_true rfl) jd_L_law_972 h hr1
                                                        · refine j_ite h (fun e138 h => ?_) (fun e138 h => ?_)
                                                          · refine j_tableIn (tgt := 973) (off := 941) X jd_L_law_32 e138 (by decide) (by decide) (by decide) rfl ?_
                                                            refine j_aload_n X jd_L_law_973 rfl rfl ?_
                                                            refine j_aload_n X jd_L_law_974 rfl rfl ?_
                                                            refine j_iload_n X jd_L_law_975 rfl rfl ?_
                                                            refine j_iconst (v := 1) X jd_L_law_976 (by decide) ?_
                                                            refine j_iadd X jd_L_law_977 ?_
                                                            refine j_xld X hX hbb jd_L_law_978 h (fun h => ?_)
                                                            refine j_aload_n X jd_L_law_979 rfl rfl ?_
                                                            refine j_iload_n X jd_L_law_980 rfl rfl ?_
                                                            refine j_iconst (v := 2) X jd_L_law_981 (by decide) ?_
                                                            refine j_iadd X jd_L_law_982 ?_
                                                            refine j_xld X hX hbb jd_L_law_983 h (fun h => ?_)
                                                            refine j_aload_n X jd_L_law_984 rfl rfl ?_
                                                            refine j_iload_n X jd_L_law_985 rfl rfl ?_
                                                            refine j_iconst (v := 3) X jd_L_law_986 (by decide) ?_
                                                            refine j_iadd X jd_L_law_987 ?_
                                                            refine j_xld X hX hbb jd_L_law_988 h (fun h => ?_)
                                                            refine j_callVi (As := [.int (xs (j_ix (x3 + 1))), .int (xs (j_ix (x3 + 2))), .int (xs (j_ix (x3 + 3)))]) (st := []) (c0 := 0) X h jc_G js_0 (j_lt rfl hn) ⟨jqc_G_inForce, jqi_G_inForce, jqv_G_inForce, jqn_G⟩ jlm_L_125 jh_G_inForce rfl (by decide) (by decide) (Nat.le_of_ble_eq_true rfl) ⟨Nat.le_of_ble_eq_true rfl, Nat.le_of_ble_eq_true rfl⟩ (fun v0 I0 h => k_G_inForce (r := (v0, I0)) hF hn h) jd_L_law_989 rfl (fun v139 I140 h => ?_)
                                                            refine j_aload_n X jd_L_law_992 rfl rfl ?_
                                                            refine j_aload_n X jd_L_law_993 rfl rfl ?_
                                                            refine j_iload_n X jd_L_law_994 rfl rfl ?_
                                                            refine j_iconst (v := 1) X jd_L_law_995 (by decide) ?_
                                                            refine j_iadd X jd_L_law_996 ?_
                                                            refine j_xld X hX hbb jd_L_law_997 h (fun h => ?_)
                                                            refine j_aload_n X jd_L_law_998 rfl rfl ?_
                                                            refine j_iload_n X jd_L_law_999 rfl rfl ?_
                                                            refine j_iconst (v := 2) X jd_L_law_1000 (by decide) ?_
                                                            refine j_iadd X jd_L_law_1001 ?_
                                                            refine j_xld X hX hbb jd_L_law_1002 h (fun h => ?_)
                                                            refine j_aload_n X jd_L_law_1003 rfl rfl ?_
                                                            refine j_iload_n X jd_L_law_1004 rfl rfl ?_
                                                            refine j_iconst (v := 3) X jd_L_law_1005 (by decide) ?_
                                                            refine j_iadd X jd_L_law_1006 ?_
                                                            refine j_xld X hX hbb jd_L_law_1007 h (fun h => ?_)
                                                            refine j_callVi (As := [.int (xs (j_ix (x3 + 1))), .int (xs (j_ix (x3 + 2))), .int (xs (j_ix (x3 + 3)))]) (st := [.int v139]) (c0 := 215) X h jc_M js_215 (j_lt rfl hn) ⟨jqc_M_inForce, jqi_M_inForce, jqv_M_inForce, jqn_M⟩ jlm_L_128 jh_M_inForce rfl (by decide) (by decide) (Nat.le_of_ble_eq_true rfl) ⟨Nat.le_of_ble_eq_true rfl, Nat.le_of_ble_eq_true rfl⟩ (fun v0 I0 h => k_M_inForce (r := (v0, I0)) hF hn h) jd_L_law_1008 rfl (fun v141 I142 h => ?_)
                                                            refine j_icmp_eq (tgt := 1230) X jd_L_law_1011 rfl h (fun h => ?_) (fun h => ?_)
                                                            · exact k_L_law_1230 hF X hX hbb hbs hkb18 h hr1
                                                            · refine j_iconst (v := 0) X jd_L_law_1014 (by decide) ?_
                                                              exact j_lawret X hbs (Nat.le_of_ble_eq_true rfl) (Nat.le_of_ble_eq_true rfl) jd_L_law_1015 h hr1
                                                          · refine j_ite h (fun e143 h => ?_) (fun e143 h => ?_)
                                                            · refine j_tableIn (tgt := 1016) (off := 984) X jd_L_law_32 e143 (by decide) (by decide) (by decide) rfl ?_
                                                              refine j_aload_n X jd_L_law_1016 rfl rfl ?_
                                                              refine j_aload_n X jd_L_law_1017 rfl rfl ?_
                                                              refine j_iload_n X jd_L_law_1018 rfl rfl ?_
                                                              refine j_iconst (v := 1) X jd_L_law_1019 (by decide) ?_
                                                              refine j_iadd X jd_L_law_1020 ?_
                                                              refine j_xld X hX hbb jd_L_law_1021 h (fun h => ?_)
                                                              refine j_aload_n X jd_L_law_1022 rfl rfl ?_
                                                              refine j_iload_n X jd_L_law_1023 rfl rfl ?_
                                                              refine j_iconst (v := 2) X jd_L_law_1024 (by decide) ?_
                                                              refine j_iadd X jd_L_law_1025 ?_
                                                              refine j_xld X hX hbb jd_L_law_1026 h (fun h => ?_)
                                                              refine j_aload_n X jd_L_law_1027 rfl rfl ?_
                                                              refine j_iload_n X jd_L_law_1028 rfl rfl ?_
                                                              refine j_iconst (v := 3) X jd_L_law_1029 (by decide) ?_
                                                              refine j_iadd X jd_L_law_1030 ?_
                                                              refine j_xld X hX hbb jd_L_law_1031 h (fun h => ?_)
                                                              refine j_callVi (As := [.int (xs (j_ix (x3 + 1))), .int (xs (j_ix (x3 + 2))), .int (xs (j_ix (x3 + 3)))]) (st := []) (c0 := 0) X h jc_G js_0 (j_lt rfl hn) ⟨jqc_G_gives, jqi_G_gives, jqv_G_gives, jqn_G⟩ jlm_L_129 jh_G_gives rfl (by decide) (by decide) (Nat.le_of_ble_eq_true rfl) ⟨Nat.le_of_ble_eq_true rfl, Nat.le_of_ble_eq_true rfl⟩ (fun v0 I0 h => k_G_gives (r := (v0, I0)) hF hn h) jd_L_law_1032 rfl (fun v144 I145 h => ?_)
                                                              refine j_aload_n X jd_L_law_1035 rfl rfl ?_
                                                              refine j_aload_n X jd_L_law_1036 rfl rfl ?_
                                                              refine j_iload_n X jd_L_law_1037 rfl rfl ?_
                                                              refine j_iconst (v := 1) X jd_L_law_1038 (by decide) ?_
                                                              refine j_iadd X jd_L_law_1039 ?_
                                                              refine j_xld X hX hbb jd_L_law_1040 h (fun h => ?_)
                                                              refine j_aload_n X jd_L_law_1041 rfl rfl ?_
                                                              refine j_iload_n X jd_L_law_1042 rfl rfl ?_
                                                              refine j_iconst (v := 2) X jd_L_law_1043 (by decide) ?_
                                                              refine j_iadd X jd_L_law_1044 ?_
                                                              refine j_xld X hX hbb jd_L_law_1045 h (fun h => ?_)
                                                              refine j_aload_n X jd_L_law_1046 rfl rfl ?_
                                                              refine j_iload_n X jd_L_law_1047 rfl rfl ?_
                                                              refine j_iconst (v := 3) X jd_L_law_1048 (by decide) ?_
                                                              refine j_iadd X jd_L_law_1049 ?_
                                                              refine j_xld X hX hbb jd_L_law_1050 h (fun h => ?_)
                                                              refine j_callVi (As := [.int (xs (j_ix (x3 + 1))), .int (xs (j_ix (x3 + 2))), .int (xs (j_ix (x3 + 3)))]) (st := [.int v144]) (c0 := 215) X h jc_M js_215 (j_lt rfl hn) ⟨jqc_M_gives, jqi_M_gives, jqv_M_gives, jqn_M⟩ jlm_L_132 jh_M_gives rfl (by decide) (by decide) (Nat.le_of_ble_eq_true rfl) ⟨Nat.le_of_ble_eq_true rfl, Nat.le_of_ble_eq_true rfl⟩ (fun v0 I0 h => k_M_gives (r := (v0, I0)) hF hn h) jd_L_law_1051 rfl (fun v146 I147 h => ?_)
                                                              refine j_icmp_eq (tgt := 1230) X jd_L_law_1054 rfl h (fun h => ?_) (fun h => ?_)
                                                              · exact k_L_law_1230 hF X hX hbb hbs hkb18 h hr1
                                                              · refine j_iconst (v := 0) X jd_L_law_1057 (by decide) ?_
                                                                exact j_lawret X hbs (Nat.le_of_ble_eq_true rfl) (Nat.le_of_ble_eq_true rfl) jd_L_law_1058 h hr1
                                                            · refine j_ite h (fun e148 h => ?_) (fun e148 h => ?_)
                                                              · refine j_tableIn (tgt := 1059) (off := 1027) X jd_L_law_32 e148 (by decide) (by decide) (by decide) rfl ?_
                                                                refine j_aload_n X jd_L_law_1059 rfl rfl ?_
                                                                refine j_callVi (As := []) (st := []) (c0 := 0) X h jc_G js_0 (j_lt rfl hn) ⟨jqc_G_close, jqi_G_close, jqv_G_close, jqn_G⟩ jlm_L_133 jh_G_close rfl (by decide) (by decide) (Nat.le_of_ble_eq_true rfl) ⟨Nat.le_of_ble_eq_true rfl, Nat.le_of_ble_eq_true rfl⟩ (fun v0 I0 h => k_G_close (r := (v0, I0)) hF hn h) jd_L_law_1060 rfl (fun v149 I150 h => ?_)
                                                                refine j_aload_n X jd_L_law_1063 rfl rfl ?_
                                                                refine j_callVi (As := []) (st := [.int v149]) (c0 := 215) X h jc_M js_215 (j_lt rfl hn) ⟨jqc_M_close, jqi_M_close, jqv_M_close, jqn_M⟩ jlm_L_136 jh_M_close rfl (by decide) (by decide) (Nat.le_of_ble_eq_true rfl) ⟨Nat.le_of_ble_eq_true rfl, Nat.le_of_ble_eq_true rfl⟩ (fun v0 I0 h => k_M_close (r := (v0, I0)) hF hn h) jd_L_law_1064 rfl (fun v151 I152 h => ?_)
                                                                refine j_icmp_eq (tgt := 1230) X jd_L_law_1067 rfl h (fun h => ?_) (fun h => ?_)
                                                                · exact k_L_law_1230 hF X hX hbb hbs hkb18 h hr1
                                                                · refine j_iconst (v := 0) X jd_L_law_1070 (by decide) ?_
                                                                  exact j_lawret X hbs (Nat.le_of_ble_eq_true rfl) (Nat.le_of_ble_eq_true rfl) jd_L_law_1071 h hr1
                                                              · refine j_ite h (fun e153 h => ?_) (fun e153 h => ?_)
                                                                · refine j_tableIn (tgt := 1072) (off := 1040) X jd_L_law_32 e153 (by decide) (by decide) (by decide) rfl ?_
                                                                  refine j_aload_n X jd_L_law_1072 rfl rfl ?_
                                                                  refine j_aload_n X jd_L_law_1073 rfl rfl ?_
                                                                  refine j_iload_n X jd_L_law_1074 rfl rfl ?_
                                                                  refine j_iconst (v := 1) X jd_L_law_1075 (by decide) ?_
                                                                  refine j_iadd X jd_L_law_1076 ?_
                                                                  refine j_xld X hX hbb jd_L_law_1077 h (fun h => ?_)
                                                                  refine j_aload_n X jd_L_law_1078 rfl rfl ?_
                                                                  refine j_iload_n X jd_L_law_1079 rfl rfl ?_
                                                                  refine j_iconst (v := 2) X jd_L_law_1080 (by decide) ?_
                                                                  refine j_iadd X jd_L_law_1081 ?_
                                                                  refine j_xld X hX hbb jd_L_law_1082 h (fun h => ?_)
                                                                  refine j_callVi (As := [.int (xs (j_ix (x3 + 1))), .int (xs (j_ix (x3 + 2)))]) (st := []) (c0 := 0) X h jc_G js_0 (j_lt rfl hn) ⟨jqc_G_night, jqi_G_night, jqv_G_night, jqn_G⟩ jlm_L_137 jh_G_night rfl (by decide) (by decide) (Nat.le_of_ble_eq_true rfl) ⟨Nat.le_of_ble_eq_true rfl, Nat.le_of_ble_eq_true rfl⟩ (fun v0 I0 h => k_G_night (r := (v0, I0)) hF hn h) jd_L_law_1083 rfl (fun v154 I155 h => ?_)
                                                                  refine j_aload_n X jd_L_law_1086 rfl rfl ?_
                                                                  refine j_aload_n X jd_L_law_1087 rfl rfl ?_
                                                                  refine j_iload_n X jd_L_law_1088 rfl rfl ?_
                                                                  refine j_iconst (v := 1) X jd_L_law_1089 (by decide) ?_
                                                                  refine j_iadd X jd_L_law_1090 ?_
                                                                  refine j_xld X hX hbb jd_L_law_1091 h (fun h => ?_)
                                                                  refine j_aload_n X jd_L_law_1092 rfl rfl ?_
                                                                  refine j_iload_n X jd_L_law_1093 rfl rfl ?_
                                                                  refine j_iconst (v := 2) X jd_L_law_1094 (by decide) ?_
                                                                  refine j_iadd X jd_L_law_1095 ?_
                                                                  refine j_xld X hX hbb jd_L_law_1096 h (fun h => ?_)
                                                                  refine j_callVi (As := [.int (xs (j_ix (x3 + 1))), .int (xs (j_ix (x3 + 2)))]) (st := [.int v154]) (c0 := 215) X h jc_M js_215 (j_lt rfl hn) ⟨jqc_M_night, jqi_M_night, jqv_M_night, jqn_M⟩ jlm_L_140 jh_M_night rfl (by decide) (by decide) (Nat.le_of_ble_eq_true rfl) ⟨Nat.le_of_ble_eq_true rfl, Nat.le_of_ble_eq_true rfl⟩ (fun v0 I0 h => k_M_night (r := (v0, I0)) hF hn h) jd_L_law_1097 rfl (fun v156 I157 h => ?_)
                                                                  refine j_icmp_eq (tgt := 1230) X jd_L_law_1100 rfl h (fun h => ?_) (fun h => ?_)
                                                                  · exact k_L_law_1230 hF X hX hbb hbs hkb18 h hr1
                                                                  · refine j_iconst (v := 0) X jd_L_law_1103 (by decide) ?_
                                                                    exact j_lawret X hbs (Nat.le_of_ble_eq_true rfl) (Nat.le_of_ble_eq_true rfl) jd_L_law_1104 h hr1
                                                                · refine j_ite h (fun e158 h => ?_) (fun e158 h => ?_)
                                                                  · refine j_tableIn (tgt := 1105) (off := 1073) X jd_L_law_32 e158 (by decide) (by decide) (by decide) rfl ?_
                                                                    refine j_aload_n X jd_L_law_1105 rfl rfl ?_
                                                                    refine j_aload_n X jd_L_law_1106 rfl rfl ?_
                                                                    refine j_iload_n X jd_L_law_1107 rfl rfl ?_
                                                                    refine j_iconst (v := 1) X jd_L_law_1108 (by decide) ?_
                                                                    refine j_iadd X jd_L_law_1109 ?_
                                                                    refine j_xld X hX hbb jd_L_law_1110 h (fun h => ?_)
                                                                    refine j_callVi (As := [.int (xs (j_ix (x3 + 1)))]) (st := []) (c0 := 0) X h jc_G js_0 (j_lt rfl hn) ⟨jqc_G_foretold, jqi_G_foretold, jqv_G_foretold, jqn_G⟩ jlm_L_141 jh_G_foretold rfl (by decide) (by decide) (Nat.le_of_ble_eq_true rfl) ⟨Nat.le_of_ble_eq_true rfl, Nat.le_of_ble_eq_true rfl⟩ (fun v0 I0 h => k_G_foretold (r := (v0, I0)) hF hn h) jd_L_law_1111 rfl (fun v159 I160 h => ?_)
                                                                    refine j_aload_n X jd_L_law_1114 rfl rfl ?_
                                                                    refine j_aload_n X jd_L_law_1115 rfl rfl ?_
                                                                    refine j_iload_n X jd_L_law_1116 rfl rfl ?_
                                                                    refine j_iconst (v := 1) X jd_L_law_1117 (by decide) ?_
                                                                    refine j_iadd X jd_L_law_1118 ?_
                                                                    refine j_xld X hX hbb jd_L_law_1119 h (fun h => ?_)
                                                                    refine j_callVi (As := [.int (xs (j_ix (x3 + 1)))]) (st := [.int v159]) (c0 := 215) X h jc_M js_215 (j_lt rfl hn) ⟨jqc_M_foretold, jqi_M_foretold, jqv_M_foretold, jqn_M⟩ jlm_L_144 jh_M_foretold rfl (by decide) (by decide) (Nat.le_of_ble_eq_true rfl) ⟨Nat.le_of_ble_eq_true rfl, Nat.le_of_ble_eq_true rfl⟩ (fun v0 I0 h => k_M_foretold (r := (v0, I0)) hF hn h) jd_L_law_1120 rfl (fun v161 I162 h => ?_)
                                                                    refine j_icmp_eq (tgt := 1230) X jd_L_law_1123 rfl h (fun h => ?_) (fun h => ?_)
                                                                    · exact k_L_law_1230 hF X hX hbb hbs hkb18 h hr1
                                                                    · refine j_iconst (v := 0) X jd_L_law_1126 (by decide) ?_
                                                                      exact j_lawret X hbs (Nat.le_of_ble_eq_true rfl) (Nat.le_of_ble_eq_true rfl) jd_L_law_1127 h hr1
                                                                  · refine j_ite h (fun e163 h => ?_) (fun e163 h => ?_)
                                                                    · refine j_tableIn (tgt := 1128) (off := 1096) X jd_L_law_32 e163 (by decide) (by decide) (by decide) rfl ?_
                                                                      refine j_aload_n X jd_L_law_1128 rfl rfl ?_
                                                                      refine j_aload_n X jd_L_law_1129 rfl rfl ?_
                                                                      refine j_iload_n X jd_L_law_1130 rfl rfl ?_
                                                                      refine j_iconst (v := 1) X jd_L_law_1131 (by decide) ?_
                                                                      refine j_iadd X jd_L_law_1132 ?_
                                                                      refine j_xld X hX hbb jd_L_law_1133 h (fun h => ?_)
                                                                      refine j_aload_n X jd_L_law_1134 rfl rfl ?_
                                                                      refine j_iload_n X jd_L_law_1135 rfl rfl ?_
                                                                      refine j_iconst (v := 2) X jd_L_law_1136 (by decide) ?_
                                                                      refine j_iadd X jd_L_law_1137 ?_
                                                                      refine j_xld X hX hbb jd_L_law_1138 h (fun h => ?_)
                                                                      refine j_callVi (As := [.int (xs (j_ix (x3 + 1))), .int (xs (j_ix (x3 + 2)))]) (st := []) (c0 := 0) X h jc_G js_0 (j_lt rfl hn) ⟨jqc_G_stolen, jqi_G_stolen, jqv_G_stolen, jqn_G⟩ jlm_L_145 jh_G_stolen rfl (by decide) (by decide) (Nat.le_of_ble_eq_true rfl) ⟨Nat.le_of_ble_eq_true rfl, Nat.le_of_ble_eq_true rfl⟩ (fun v0 I0 h => k_G_stolen (r := (v0, I0)) hF hn h) jd_L_law_1139 rfl (fun v164 I165 h => ?_)
                                                                      refine j_aload_n X jd_L_law_1142 rfl rfl ?_
                                                                      refine j_aload_n X jd_L_law_1143 rfl rfl ?_
                                                                      refine j_iload_n X jd_L_law_1144 rfl rfl ?_
                                                                      refine j_iconst (v := 1) X jd_L_law_1145 (by decide) ?_
                                                                      refine j_iadd X jd_L_law_1146 ?_
                                                                      refine j_xld X hX hbb jd_L_law_1147 h (fun h => ?_)
                                                                      refine j_aload_n X jd_L_law_1148 rfl rfl ?_
                                                                      refine j_iload_n X jd_L_law_1149 rfl rfl ?_
                                                                      refine j_iconst (v := 2) X jd_L_law_1150 (by decide) ?_
                                                                      refine j_iadd X jd_L_law_1151 ?_
                                                                      refine j_xld X hX hbb jd_L_law_1152 h (fun h => ?_)
                                                                      refine j_callVi (As := [.int (xs (j_ix (x3 + 1))), .int (xs (j_ix (x3 + 2)))]) (st := [.int v164]) (c0 := 215) X h jc_M js_215 (j_lt rfl hn) ⟨jqc_M_stolen, jqi_M_stolen, jqv_M_stolen, jqn_M⟩ jlm_L_148 jh_M_stolen rfl (by decide) (by decide) (Nat.le_of_ble_eq_true rfl) ⟨Nat.le_of_ble_eq_true rfl, Nat.le_of_ble_eq_true rfl⟩ (fun v0 I0 h => k_M_stolen (r := (v0, I0)) hF hn h) jd_L_law_1153 rfl (fun v166 I167 h => ?_)
                                                                      refine j_icmp_eq (tgt := 1230) X jd_L_law_1156 rfl h (fun h => ?_) (fun h => ?_)
                                                                      · exact k_L_law_1230 hF X hX hbb hbs hkb18 h hr1
                                                                      · refine j_iconst (v := 0) X jd_L_law_1159 (by decide) ?_
                                                                        exact j_lawret X hbs (Nat.le_of_ble_eq_true rfl) (Nat.le_of_ble_eq_true rfl) jd_L_law_1160 h hr1
                                                                    · refine j_ite h (fun e168 h => ?_) (fun e168 h => ?_)
                                                                      · refine j_tableIn (tgt := 1161) (off := 1129) X jd_L_law_32 e168 (by decide) (by decide) (by decide) rfl ?_
                                                                        refine j_aload_n X jd_L_law_1161 rfl rfl ?_
                                                                        refine j_aload_n X jd_L_law_1162 rfl rfl ?_
                                                                        refine j_iload_n X jd_L_law_1163 rfl rfl ?_
                                                                        refine j_iconst (v := 1) X jd_L_law_1164 (by decide) ?_
                                                                        refine j_iadd X jd_L_law_1165 ?_
                                                                        refine j_xld X hX hbb jd_L_law_1166 h (fun h => ?_)
                                                                        refine j_callVi (As := [.int (xs (j_ix (x3 + 1)))]) (st := []) (c0 := 0) X h jc_G js_0 (j_lt rfl hn) ⟨jqc_G_near, jqi_G_near, jqv_G_near, jqn_G⟩ jlm_L_149 jh_G_near rfl (by decide) (by decide) (Nat.le_of_ble_eq_true rfl) ⟨Nat.le_of_ble_eq_true rfl, Nat.le_of_ble_eq_true rfl⟩ (fun v0 I0 h => k_G_near (r := (v0, I0)) hF hn h) jd_L_law_1167 rfl (fun v169 I170 h => ?_)
                                                                        refine j_aload_n X jd_L_law_1170 rfl rfl ?_
                                                                        refine j_aload_n X jd_L_law_1171 rfl rfl ?_
                                                                        refine j_iload_n X jd_L_law_1172 rfl rfl ?_
                                                                        refine j_iconst (v := 1) X jd_L_law_1173 (by decide) ?_
                                                                        refine j_iadd X jd_L_law_1174 ?_
                                                                        refine j_xld X hX hbb jd_L_law_1175 h (fun h => ?_)
                                                                        refine j_callVi (As := [.int (xs (j_ix (x3 + 1)))]) (st := [.int v169]) (c0 := 215) X h jc_M js_215 (j_lt rfl hn) ⟨jqc_M_near, jqi_M_near, jqv_M_near, jqn_M⟩ jlm_L_152 jh_M_near rfl (by decide) (by decide) (Nat.le_of_ble_eq_true rfl) ⟨Nat.le_of_ble_eq_true rfl, Nat.le_of_ble_eq_true rfl⟩ (fun v0 I0 h => k_M_near (r := (v0, I0)) hF hn h) jd_L_law_1176 rfl (fun v171 I172 h => ?_)
                                                                        refine j_icmp_eq (tgt := 1230) X jd_L_law_1179 rfl h (fun h => ?_) (fun h => ?_)
                                                                        · exact k_L_law_1230 hF X hX hbb hbs hkb18 h hr1
                                                                        · refine j_iconst (v := 0) X jd_L_law_1182 (by decide) ?_
                                                                          exact j_lawret X hbs (Nat.le_of_ble_eq_true rfl) (Nat.le_of_ble_eq_true rfl) jd_L_law_1183 h hr1
                                                                      · refine j_ite h (fun e173 h => ?_) (fun e173 h => ?_)
                                                                        · refine j_tableIn (tgt := 1184) (off := 1152) X jd_L_law_32 e173 (by decide) (by decide) (by decide) rfl ?_
                                                                          refine j_aload_n X jd_L_law_1184 rfl rfl ?_
                                                                          refine j_aload_n X jd_L_law_1185 rfl rfl ?_
                                                                          refine j_iload_n X jd_L_law_1186 rfl rfl ?_
                                                                          refine j_iconst (v := 1) X jd_L_law_1187 (by decide) ?_
                                                                          refine j_iadd X jd_L_law_1188 ?_
                                                                          refine j_xld X hX hbb jd_L_law_1189 h (fun h => ?_)
                                                                          refine j_callVi (As := [.int (xs (j_ix (x3 + 1)))]) (st := []) (c0 := 0) X h jc_G js_0 (j_lt rfl hn) ⟨jqc_G_doubt, jqi_G_doubt, jqv_G_doubt, jqn_G⟩ jlm_L_153 jh_G_doubt rfl (by decide) (by decide) (Nat.le_of_ble_eq_true rfl) ⟨Nat.le_of_ble_eq_true rfl, Nat.le_of_ble_eq_true rfl⟩ (fun v0 I0 h => k_G_doubt (r := (v0, I0)) hF hn h) jd_L_law_1190 rfl (fun v174 I175 h => ?_)
                                                                          refine j_aload_n X jd_L_law_1193 rfl rfl ?_
                                                                          refine j_aload_n X jd_L_law_1194 rfl rfl ?_
                                                                          refine j_iload_n X jd_L_law_1195 rfl rfl ?_
                                                                          refine j_iconst (v := 1) X jd_L_law_1196 (by decide) ?_
                                                                          refine j_iadd X jd_L_law_1197 ?_
                                                                          refine j_xld X hX hbb jd_L_law_1198 h (fun h => ?_)
                                                                          refine j_callVi (As := [.int (xs (j_ix (x3 + 1)))]) (st := [.int v174]) (c0 := 215) X h jc_M js_215 (j_lt rfl hn) ⟨jqc_M_doubt, jqi_M_doubt, jqv_M_doubt, jqn_M⟩ jlm_L_156 jh_M_doubt rfl (by decide) (by decide) (Nat.le_of_ble_eq_true rfl) ⟨Nat.le_of_ble_eq_true rfl, Nat.le_of_ble_eq_true rfl⟩ (fun v0 I0 h => k_M_doubt (r := (v0, I0)) hF hn h) jd_L_law_1199 rfl (fun v176 I177 h => ?_)
                                                                          refine j_icmp_eq (tgt := 1230) X jd_L_law_1202 rfl h (fun h => ?_) (fun h => ?_)
                                                                          · exact k_L_law_1230 hF X hX hbb hbs hkb18 h hr1
                                                                          · refine j_iconst (v := 0) X jd_L_law_1205 (by decide) ?_
                                                                            exact j_lawret X hbs (Nat.le_of_ble_eq_true rfl) (Nat.le_of_ble_eq_true rfl) jd_L_law_1206 h hr1
                                                                        · refine j_ite h (fun e178 h => ?_) (fun e178 h => ?_)
                                                                          · refine j_tableIn (tgt := 1207) (off := 1175) X jd_L_law_32 e178 (by decide) (by decide) (by decide) rfl ?_
                                                                            refine j_aload_n X jd_L_law_1207 rfl rfl ?_
                                                                            refine j_aload_n X jd_L_law_1208 rfl rfl ?_
                                                                            refine j_iload_n X jd_L_law_1209 rfl rfl ?_
                                                                            refine j_iconst (v := 1) X jd_L_law_1210 (by decide) ?_
                                                                            refine j_iadd X jd_L_law_1211 ?_
                                                                            refine j_xld X hX hbb jd_L_law_1212 h (fun h => ?_)
                                                                            refine j_callVi (As := [.int (xs (j_ix (x3 + 1)))]) (st := []) (c0 := 0) X h jc_G js_0 (j_lt rfl hn) ⟨jqc_G_count, jqi_G_count, jqv_G_count, jqn_G⟩ jlm_L_157 jh_G_count rfl (by decide) (by decide) (Nat.le_of_ble_eq_true rfl) ⟨Nat.le_of_ble_eq_true rfl, Nat.le_of_ble_eq_true rfl⟩ (fun v0 I0 h => k_G_count (r := (v0, I0)) hF hn h) jd_L_law_1213 rfl (fun v179 I180 h => ?_)
                                                                            refine j_aload_n X jd_L_law_1216 rfl rfl ?_
                                                                            refine j_aload_n X jd_L_law_1217 rfl rfl ?_
                                                                            refine j_iload_n X jd_L_law_1218 rfl rfl ?_
                                                                            refine j_iconst (v := 1) X jd_L_law_1219 (by decide) ?_
                                                                            refine j_iadd X jd_L_law_1220 ?_
                                                                            refine j_xld X hX hbb jd_L_law_1221 h (fun h => ?_)
                                                                            refine j_callVi (As := [.int (xs (j_ix (x3 + 1)))]) (st := [.int v179]) (c0 := 215) X h jc_M js_215 (j_lt rfl hn) ⟨jqc_M_count, jqi_M_count, jqv_M_count, jqn_M⟩ jlm_L_160 jh_M_count rfl (by decide) (by decide) (Nat.le_of_ble_eq_true rfl) ⟨Nat.le_of_ble_eq_true rfl, Nat.le_of_ble_eq_true rfl⟩ (fun v0 I0 h => k_M_count (r := (v0, I0)) hF hn h) jd_L_law_1222 rfl (fun v181 I182 h => ?_)
                                                                            refine j_icmp_eq (tgt := 1230) X jd_L_law_1225 rfl h (fun h => ?_) (fun h => ?_)
                                                                            · exact k_L_law_1230 hF X hX hbb hbs hkb18 h hr1
                                                                            · refine j_iconst (v := 0) X jd_L_law_1228 (by decide) ?_
                                                                              exact j_lawret X hbs (Nat.le_of_ble_eq_true rfl) (Nat.le_of_ble_eq_true rfl) jd_L_law_1229 h hr1
                                                                          · refine j_tableDef (tgt := 1230) X [0, 1, 2, 3, 4, 5, 6, 7, 8, 9, 10, 11, 12, 13, 14, 15, 16, 17, 18, 19, 20, 21, 22, 23, 24, 25, 26, 27, 28, 29, 30, 31, 32, 33, 34, 35] jd_L_law_32 (j_allc e3 (j_allc e8 (j_allc e13 (j_allc e18 (j_allc e23 (j_allc e28 (j_allc e33 (j_allc e38 (j_allc e43 (j_allc e48 (j_allc e53 (j_allc e58 (j_allc e63 (j_allc e68 (j_allc e73 (j_allc e78 (j_allc e83 (j_allc e88 (j_allc e93 (j_allc e98 (j_allc e103 (j_allc e108 (j_allc e113 (j_allc e118 (j_allc e123 (j_allc e128 (j_allc e133 (j_allc e138 (j_allc e143 (j_allc e148 (j_allc e153 (j_allc e158 (j_allc e163 (j_allc e168 (j_allc e173 (j_allc e178 j_all0)))))))))))))))))))))))))))))))))))) (by decide) (by decide) (by decide) (by decide) rfl ?_
                                                                            exact k_L_law_1230 hF X hX hbb hbs hkb18 h hr1
set_option maxRecDepth 100000 in
set_option maxHeartbeats 4000000 in
theorem k_L_law_18 {p : Program} {l : Launch} {e : Env} {s : State} {m : MethodId} {below : List Frame} {meth : Method} {c : Code} {g : j_G} {b : Nat} {P : j_R} {bb L : Nat} {xs : Nat → Int32} {F : Nat} (hF : j_Fx 0 260 P) (X : j_X p room_1 s m #[Value.ref bb] meth c g b 2000 code 4 "PleasureGardenLaw" (some .boolean)) (hX : va_X bb L xs s g.2.2.2.2) (hbb : bb < b) (hbs : b = s.heap.size)  {x3 : Int32} {I : j_M} {r : Int32 × j_M} (h : f_L_law_18 F L xs x3 I = some r) : r.1 = 1 → j_W p l e room_1 s m #[Value.ref bb] below meth c 4 g b 260 260 72696 (lw_Z below #[Value.ref bb] s) I P 18 [some (.ref bb), some (.ref (b + 0)), some (.ref (b + 215)), some (.int x3)] [] := by
  refine j_loop (G := fun (q : Int32 × j_M) (r : Int32 × j_M) => r.1 = 1 → j_W p l e room_1 s m #[Value.ref bb] below meth c 4 g b 260 260 72696 (lw_Z below #[Value.ref bb] s) q.2 P 18 [some (.ref bb), some (.ref (b + 0)), some (.ref (b + 215)), some (.int (q.1))] []) ?_ F (x3, I) r h
  intro again hrec0 q r h
  exact k_L_law_18b hF X hX hbb hbs (fun x3 I r h => hrec0 (x3, I) r h)  h
