-- PleasureGardenModel.isPlace(I)Z
theorem jd_M_isPlace_0 : decode jb_M_isPlace 0 = .ok (.iload_n 1, 1) := by decide +kernel
theorem jd_M_isPlace_1 : decode jb_M_isPlace 1 = .ok (.iconst 0, 1) := by decide +kernel
theorem jd_M_isPlace_2 : decode jb_M_isPlace 2 = .ok (.aload_n 0, 1) := by decide +kernel
theorem jd_M_isPlace_3 : decode jb_M_isPlace 3 = .ok (.getfield 155, 3) := by decide +kernel
theorem jd_M_isPlace_6 : decode jb_M_isPlace 6 = .ok (.iconst 1, 1) := by decide +kernel
theorem jd_M_isPlace_7 : decode jb_M_isPlace 7 = .ok (.isub, 1) := by decide +kernel
theorem jd_M_isPlace_8 : decode jb_M_isPlace 8 = .ok (.invokestatic 158, 3) := by decide +kernel
theorem jd_M_isPlace_11 : decode jb_M_isPlace 11 = .ok (.ireturn, 1) := by decide +kernel
def f_M_isPlace (F : Nat) (x1 : Int32) (I : j_M) : Option (Int32 × j_M) := j_bd (f_M_among F x1 0 ((I 215 3) - 1) I) (fun v1 I2 => (if v1 &&& 1 = v1 then some (v1, I2) else none))
set_option maxRecDepth 100000 in
set_option maxHeartbeats 4000000 in
theorem k_M_isPlace {l : Launch} {g : j_G} {b n : Nat} {P : j_R} {F : Nat} (hF : j_Fx 0 260 P) (hn : 260 ≤ n) {x1 : Int32} {I : j_M} {r : Int32 × j_M}  (h : f_M_isPlace F x1 I = some r) : j_Met l g b n P 1 jy_M_isPlace jb_M_isPlace 2 (some .boolean) [.ref (b + 215), .int x1] I r.2 (some (.int r.1)) := by
  unfold f_M_isPlace at h
  refine j_enter (plainFor_of_name (by decide)) (Nat.le_of_ble_eq_true rfl) [some (.ref (b + 215)), some (.int x1)] rfl ?_
  intro p e R s m args below meth c X0 hnm hRc hRs
  have X : j_X p R s m args meth c g b 1 jb_M_isPlace 2 "PleasureGardenModel" (some .boolean) := X0
  clear X0
  refine j_iload_n X jd_M_isPlace_0 rfl rfl ?_
  refine j_iconst (v := 0) X jd_M_isPlace_1 (by decide) ?_
  refine j_aload_n X jd_M_isPlace_2 rfl rfl ?_
  refine j_get X jf_M_155 jk_12_3 js_215 (j_lt rfl hn) jd_M_isPlace_3 ?_
  refine j_iconst (v := 1) X jd_M_isPlace_6 (by decide) ?_
  refine j_isub X jd_M_isPlace_7 ?_
  refine j_callSi (As := [.int x1, .int 0, .int ((I 215 3) - 1)]) (st := []) X h ⟨jqc_M_among, jqs_M_among, jqn_M⟩ jlm_M_158 jh_M_among.2 rfl (by decide) (by decide) (Nat.le_of_ble_eq_true rfl) ⟨Nat.zero_le _, Nat.zero_le _⟩ (fun v0 I0 h => k_M_among (r := (v0, I0)) hF hn h) jd_M_isPlace_8 rfl (fun v1 I2 h => ?_)
  refine j_guard h (fun hz h => ?_)
  exact j_zret X rfl hz jd_M_isPlace_11 h
-- PleasureGardenModel.place(II)I
theorem jd_M_place_0 : decode jb_M_place 0 = .ok (.iload_n 1, 1) := by decide +kernel
theorem jd_M_place_1 : decode jb_M_place 1 = .ok (.iconst 1, 1) := by decide +kernel
theorem jd_M_place_2 : decode jb_M_place 2 = .ok (.sipush 999, 3) := by decide +kernel
theorem jd_M_place_5 : decode jb_M_place 5 = .ok (.invokestatic 158, 3) := by decide +kernel
theorem jd_M_place_8 : decode jb_M_place 8 = .ok (.ifCond .eq 12, 3) := by decide +kernel
theorem jd_M_place_11 : decode jb_M_place 11 = .ok (.iload_n 2, 1) := by decide +kernel
theorem jd_M_place_12 : decode jb_M_place 12 = .ok (.iconst 0, 1) := by decide +kernel
theorem jd_M_place_13 : decode jb_M_place 13 = .ok (.iconst 1, 1) := by decide +kernel
theorem jd_M_place_14 : decode jb_M_place 14 = .ok (.invokestatic 158, 3) := by decide +kernel
theorem jd_M_place_17 : decode jb_M_place 17 = .ok (.ifCond .ne 5, 3) := by decide +kernel
theorem jd_M_place_20 : decode jb_M_place 20 = .ok (.iconst (-1), 1) := by decide +kernel
theorem jd_M_place_21 : decode jb_M_place 21 = .ok (.ireturn, 1) := by decide +kernel
theorem jd_M_place_22 : decode jb_M_place 22 = .ok (.aload_n 0, 1) := by decide +kernel
theorem jd_M_place_23 : decode jb_M_place 23 = .ok (.getfield 155, 3) := by decide +kernel
theorem jd_M_place_26 : decode jb_M_place 26 = .ok (.bipush 16, 2) := by decide +kernel
theorem jd_M_place_28 : decode jb_M_place 28 = .ok (.if_icmp .ne 6, 3) := by decide +kernel
theorem jd_M_place_31 : decode jb_M_place 31 = .ok (.bipush (-3), 2) := by decide +kernel
theorem jd_M_place_33 : decode jb_M_place 33 = .ok (.ireturn, 1) := by decide +kernel
theorem jd_M_place_34 : decode jb_M_place 34 = .ok (.aload_n 0, 1) := by decide +kernel
theorem jd_M_place_35 : decode jb_M_place 35 = .ok (.getfield 7, 3) := by decide +kernel
theorem jd_M_place_38 : decode jb_M_place 38 = .ok (.aload_n 0, 1) := by decide +kernel
theorem jd_M_place_39 : decode jb_M_place 39 = .ok (.getfield 155, 3) := by decide +kernel
theorem jd_M_place_42 : decode jb_M_place 42 = .ok (.iload_n 1, 1) := by decide +kernel
theorem jd_M_place_43 : decode jb_M_place 43 = .ok (.iastore, 1) := by decide +kernel
theorem jd_M_place_44 : decode jb_M_place 44 = .ok (.aload_n 0, 1) := by decide +kernel
theorem jd_M_place_45 : decode jb_M_place 45 = .ok (.getfield 13, 3) := by decide +kernel
theorem jd_M_place_48 : decode jb_M_place 48 = .ok (.aload_n 0, 1) := by decide +kernel
theorem jd_M_place_49 : decode jb_M_place 49 = .ok (.getfield 155, 3) := by decide +kernel
theorem jd_M_place_52 : decode jb_M_place 52 = .ok (.iload_n 2, 1) := by decide +kernel
theorem jd_M_place_53 : decode jb_M_place 53 = .ok (.iconst 1, 1) := by decide +kernel
theorem jd_M_place_54 : decode jb_M_place 54 = .ok (.if_icmp .ne 7, 3) := by decide +kernel
theorem jd_M_place_57 : decode jb_M_place 57 = .ok (.iconst 1, 1) := by decide +kernel
theorem jd_M_place_58 : decode jb_M_place 58 = .ok (.goto 4, 3) := by decide +kernel
theorem jd_M_place_61 : decode jb_M_place 61 = .ok (.iconst 0, 1) := by decide +kernel
theorem jd_M_place_62 : decode jb_M_place 62 = .ok (.bastore, 1) := by decide +kernel
theorem jd_M_place_63 : decode jb_M_place 63 = .ok (.aload_n 0, 1) := by decide +kernel
theorem jd_M_place_64 : decode jb_M_place 64 = .ok (.dup, 1) := by decide +kernel
theorem jd_M_place_65 : decode jb_M_place 65 = .ok (.getfield 155, 3) := by decide +kernel
theorem jd_M_place_68 : decode jb_M_place 68 = .ok (.iconst 1, 1) := by decide +kernel
theorem jd_M_place_69 : decode jb_M_place 69 = .ok (.iadd, 1) := by decide +kernel
theorem jd_M_place_70 : decode jb_M_place 70 = .ok (.putfield 155, 3) := by decide +kernel
theorem jd_M_place_73 : decode jb_M_place 73 = .ok (.aload_n 0, 1) := by decide +kernel
theorem jd_M_place_74 : decode jb_M_place 74 = .ok (.getfield 155, 3) := by decide +kernel
theorem jd_M_place_77 : decode jb_M_place 77 = .ok (.iconst 1, 1) := by decide +kernel
theorem jd_M_place_78 : decode jb_M_place 78 = .ok (.isub, 1) := by decide +kernel
theorem jd_M_place_79 : decode jb_M_place 79 = .ok (.ireturn, 1) := by decide +kernel
def f_M_place_62 (F : Nat)  (s1 : Int32) (s2 : Int32) (I : j_M) : Option (Int32 × j_M) := (if j_ok s1 16 = true then j_let (j_wr I 217 (j_ix s1) (s2 &&& 1)) (fun I1 => j_let (j_wr I1 215 3 ((I1 215 3) + 1)) (fun I2 => some ((I2 215 3) - 1, I2))) else none)
def f_M_place (F : Nat) (x1 : Int32) (x2 : Int32) (I : j_M) : Option (Int32 × j_M) := j_bd (f_M_among F x1 1 999 I) (fun v3 I4 => (if v3 = 0 then some ((-1), I4) else j_bd (f_M_among F x2 0 1 I4) (fun v5 I6 => (if v5 = 0 then some ((-1), I6) else (if (I6 215 3) = 16 then some ((-3), I6) else (if j_ok (I6 215 3) 16 = true then j_let (j_wr I6 216 (j_ix (I6 215 3)) x1) (fun I7 => (if x2 = 1 then f_M_place_62 F (I7 215 3) 1 I7 else f_M_place_62 F (I7 215 3) 0 I7)) else none))))))
set_option maxRecDepth 100000 in
set_option maxHeartbeats 4000000 in
theorem k_M_place_62 {p : Program} {l : Launch} {e : Env} {R : Room} {s : State} {m : MethodId} {args : Array Value} {below : List Frame} {meth : Method} {c : Code} {g : j_G} {b n : Nat} {P : j_R} {F : Nat} (hF : j_Fx 0 260 P) (hn : 260 ≤ n) (X : j_X p R s m args meth c g b 1 jb_M_place 3 "PleasureGardenModel" (some .int))  {s1 : Int32} {s2 : Int32} {I : j_M} {r : Int32 × j_M}  (h : f_M_place_62 F s1 s2 I = some r) : j_W p l e R s m args below meth c 3 g b n 0 0 (j_Qi g b n P below args s r) I P 62 [some (.ref (b + 215)), none, none] [.int s2, .int s1, .ref (b + 217)] := by
  unfold f_M_place_62 at h
  refine j_zast X js_217 (j_lt rfl hn) jd_M_place_62 h (fun h => ?_)
  refine j_mem h (fun I1 h => ?_)
  refine j_aload_n X jd_M_place_63 rfl rfl ?_
  refine j_dup X jd_M_place_64 rfl ?_
  refine j_get X jf_M_155 jk_12_3 js_215 (j_lt rfl hn) jd_M_place_65 ?_
  refine j_iconst (v := 1) X jd_M_place_68 (by decide) ?_
  refine j_iadd X jd_M_place_69 ?_
  refine j_puti X jt_M jto_M jn_M jf_M_155 jk_12_3 js_215 (j_lt rfl hn) (Or.inl rfl) rfl jd_M_place_70 ?_
  refine j_mem h (fun I2 h => ?_)
  refine j_aload_n X jd_M_place_73 rfl rfl ?_
  refine j_get X jf_M_155 jk_12_3 js_215 (j_lt rfl hn) jd_M_place_74 ?_
  refine j_iconst (v := 1) X jd_M_place_77 (by decide) ?_
  refine j_isub X jd_M_place_78 ?_
  exact j_iret X rfl jd_M_place_79 h
set_option maxRecDepth 100000 in
set_option maxHeartbeats 4000000 in
theorem k_M_place {l : Launch} {g : j_G} {b n : Nat} {P : j_R} {F : Nat} (hF : j_Fx 0 260 P) (hn : 260 ≤ n) {x1 : Int32} {x2 : Int32} {I : j_M} {r : Int32 × j_M}  (h : f_M_place F x1 x2 I = some r) : j_Met l g b n P 1 jy_M_place jb_M_place 3 (some .int) [.ref (b + 215), .int x1, .int x2] I r.2 (some (.int r.1)) := by
  unfold f_M_place at h
  refine j_enter (plainFor_of_name (by decide)) (Nat.le_of_ble_eq_true rfl) [some (.ref (b + 215)), some (.int x1), some (.int x2)] rfl ?_
  intro p e R s m args below meth c X0 hnm hRc hRs
  have X : j_X p R s m args meth c g b 1 jb_M_place 3 "PleasureGardenModel" (some .int) := X0
  clear X0
  refine j_iload_n X jd_M_place_0 rfl rfl ?_
  refine j_iconst (v := 1) X jd_M_place_1 (by decide) ?_
  refine j_sipush (v := 999) X jd_M_place_2 (by decide) ?_
  refine j_callSi (As := [.int x1, .int 1, .int 999]) (st := []) X h ⟨jqc_M_among, jqs_M_among, jqn_M⟩ jlm_M_158 jh_M_among.2 rfl (by decide) (by decide) (Nat.le_of_ble_eq_true rfl) ⟨Nat.zero_le _, Nat.zero_le _⟩ (fun v0 I0 h => k_M_among (r := (v0, I0)) hF hn h) jd_M_place_5 rfl (fun v3 I4 h => ?_)
  refine j_if_eq (tgt := 20) X jd_M_place_8 rfl h (fun h => ?_) (fun h => ?_)
  · refine j_iconst (v := (-1)) X jd_M_place_20 (by decide) ?_
    exact j_iret X rfl jd_M_place_21 h
  · refine j_iload_n X jd_M_place_11 rfl rfl ?_
    refine j_iconst (v := 0) X jd_M_place_12 (by decide) ?_
    refine j_iconst (v := 1) X jd_M_place_13 (by decide) ?_
    refine j_callSi (As := [.int x2, .int 0, .int 1]) (st := []) X h ⟨jqc_M_among, jqs_M_among, jqn_M⟩ jlm_M_158 jh_M_among.2 rfl (by decide) (by decide) (Nat.le_of_ble_eq_true rfl) ⟨Nat.zero_le _, Nat.zero_le _⟩ (fun v0 I0 h => k_M_among (r := (v0, I0)) hF hn h) jd_M_place_14 rfl (fun v5 I6 h => ?_)
    refine j_if_ne (tgt := 22) X jd_M_place_17 rfl h (fun h => ?_) (fun h => ?_)
    · refine j_iconst (v := (-1)) X jd_M_place_20 (by decide) ?_
      exact j_iret X rfl jd_M_place_21 h
    · refine j_aload_n X jd_M_place_22 rfl rfl ?_
      refine j_get X jf_M_155 jk_12_3 js_215 (j_lt rfl hn) jd_M_place_23 ?_
      refine j_bipush (v := 16) X jd_M_place_26 (by decide) ?_
      refine j_icmp_ne (tgt := 34) X jd_M_place_28 rfl h (fun h => ?_) (fun h => ?_)
      · refine j_bipush (v := (-3)) X jd_M_place_31 (by decide) ?_
        exact j_iret X rfl jd_M_place_33 h
      · refine j_aload_n X jd_M_place_34 rfl rfl ?_
        refine j_getr X jf_M_7 jk_12_4 js_215 (j_lt rfl hn) (jp_215_4 hF) jd_M_place_35 ?_
        refine j_aload_n X jd_M_place_38 rfl rfl ?_
        refine j_get X jf_M_155 jk_12_3 js_215 (j_lt rfl hn) jd_M_place_39 ?_
        refine j_iload_n X jd_M_place_42 rfl rfl ?_
        refine j_iast X js_216 (j_lt rfl hn) jd_M_place_43 h (fun h => ?_)
        refine j_mem h (fun I7 h => ?_)
        refine j_aload_n X jd_M_place_44 rfl rfl ?_
        refine j_getr X jf_M_13 jk_12_5 js_215 (j_lt rfl hn) (jp_215_5 hF) jd_M_place_45 ?_
        refine j_aload_n X jd_M_place_48 rfl rfl ?_
        refine j_get X jf_M_155 jk_12_3 js_215 (j_lt rfl hn) jd_M_place_49 ?_
        refine j_iload_n X jd_M_place_52 rfl rfl ?_
        refine j_iconst (v := 1) X jd_M_place_53 (by decide) ?_
        refine j_icmp_ne (tgt := 61) X jd_M_place_54 rfl h (fun h => ?_) (fun h => ?_)
        · refine j_iconst (v := 1) X jd_M_place_57 (by decide) ?_
          refine j_goto (tgt := 62) X jd_M_place_58 rfl ?_
          refine j_sub [true, false, false] (lv' := [some (.ref (b + 215)), none, none]) rfl ?_
          exact k_M_place_62 hF hn X h
        · refine j_iconst (v := 0) X jd_M_place_61 (by decide) ?_
          refine j_sub [true, false, false] (lv' := [some (.ref (b + 215)), none, none]) rfl ?_
          exact k_M_place_62 hF hn X h
-- PleasureGardenModel.rain(II)I
theorem jd_M_rain_0 : decode jb_M_rain 0 = .ok (.iload_n 1, 1) := by decide +kernel
theorem jd_M_rain_1 : decode jb_M_rain 1 = .ok (.aload_n 0, 1) := by decide +kernel
theorem jd_M_rain_2 : decode jb_M_rain 2 = .ok (.getfield 171, 3) := by decide +kernel
theorem jd_M_rain_5 : decode jb_M_rain 5 = .ok (.sipush 479, 3) := by decide +kernel
theorem jd_M_rain_8 : decode jb_M_rain 8 = .ok (.invokestatic 158, 3) := by decide +kernel
theorem jd_M_rain_11 : decode jb_M_rain 11 = .ok (.ifCond .eq 15, 3) := by decide +kernel
theorem jd_M_rain_14 : decode jb_M_rain 14 = .ok (.iload_n 2, 1) := by decide +kernel
theorem jd_M_rain_15 : decode jb_M_rain 15 = .ok (.iload_n 1, 1) := by decide +kernel
theorem jd_M_rain_16 : decode jb_M_rain 16 = .ok (.if_icmp .le 10, 3) := by decide +kernel
theorem jd_M_rain_19 : decode jb_M_rain 19 = .ok (.iload_n 2, 1) := by decide +kernel
theorem jd_M_rain_20 : decode jb_M_rain 20 = .ok (.sipush 480, 3) := by decide +kernel
theorem jd_M_rain_23 : decode jb_M_rain 23 = .ok (.if_icmp .le 5, 3) := by decide +kernel
theorem jd_M_rain_26 : decode jb_M_rain 26 = .ok (.iconst (-1), 1) := by decide +kernel
theorem jd_M_rain_27 : decode jb_M_rain 27 = .ok (.ireturn, 1) := by decide +kernel
theorem jd_M_rain_28 : decode jb_M_rain 28 = .ok (.aload_n 0, 1) := by decide +kernel
theorem jd_M_rain_29 : decode jb_M_rain 29 = .ok (.getfield 174, 3) := by decide +kernel
theorem jd_M_rain_32 : decode jb_M_rain 32 = .ok (.bipush 20, 2) := by decide +kernel
theorem jd_M_rain_34 : decode jb_M_rain 34 = .ok (.if_icmp .ne 6, 3) := by decide +kernel
theorem jd_M_rain_37 : decode jb_M_rain 37 = .ok (.bipush (-3), 2) := by decide +kernel
theorem jd_M_rain_39 : decode jb_M_rain 39 = .ok (.ireturn, 1) := by decide +kernel
theorem jd_M_rain_40 : decode jb_M_rain 40 = .ok (.aload_n 0, 1) := by decide +kernel
theorem jd_M_rain_41 : decode jb_M_rain 41 = .ok (.getfield 20, 3) := by decide +kernel
theorem jd_M_rain_44 : decode jb_M_rain 44 = .ok (.aload_n 0, 1) := by decide +kernel
theorem jd_M_rain_45 : decode jb_M_rain 45 = .ok (.getfield 174, 3) := by decide +kernel
theorem jd_M_rain_48 : decode jb_M_rain 48 = .ok (.iload_n 1, 1) := by decide +kernel
theorem jd_M_rain_49 : decode jb_M_rain 49 = .ok (.iastore, 1) := by decide +kernel
theorem jd_M_rain_50 : decode jb_M_rain 50 = .ok (.aload_n 0, 1) := by decide +kernel
theorem jd_M_rain_51 : decode jb_M_rain 51 = .ok (.getfield 23, 3) := by decide +kernel
theorem jd_M_rain_54 : decode jb_M_rain 54 = .ok (.aload_n 0, 1) := by decide +kernel
theorem jd_M_rain_55 : decode jb_M_rain 55 = .ok (.getfield 174, 3) := by decide +kernel
theorem jd_M_rain_58 : decode jb_M_rain 58 = .ok (.iload_n 2, 1) := by decide +kernel
theorem jd_M_rain_59 : decode jb_M_rain 59 = .ok (.iastore, 1) := by decide +kernel
theorem jd_M_rain_60 : decode jb_M_rain 60 = .ok (.aload_n 0, 1) := by decide +kernel
theorem jd_M_rain_61 : decode jb_M_rain 61 = .ok (.dup, 1) := by decide +kernel
theorem jd_M_rain_62 : decode jb_M_rain 62 = .ok (.getfield 174, 3) := by decide +kernel
theorem jd_M_rain_65 : decode jb_M_rain 65 = .ok (.iconst 1, 1) := by decide +kernel
theorem jd_M_rain_66 : decode jb_M_rain 66 = .ok (.iadd, 1) := by decide +kernel
theorem jd_M_rain_67 : decode jb_M_rain 67 = .ok (.putfield 174, 3) := by decide +kernel
theorem jd_M_rain_70 : decode jb_M_rain 70 = .ok (.aload_n 0, 1) := by decide +kernel
theorem jd_M_rain_71 : decode jb_M_rain 71 = .ok (.getfield 174, 3) := by decide +kernel
theorem jd_M_rain_74 : decode jb_M_rain 74 = .ok (.ireturn, 1) := by decide +kernel
def f_M_rain (F : Nat) (x1 : Int32) (x2 : Int32) (I : j_M) : Option (Int32 × j_M) := j_bd (f_M_among F x1 (I 215 2) 479 I) (fun v1 I2 => (if v1 = 0 then some ((-1), I2) else (if x2 ≤ x1 then some ((-1), I2) else (if x2 ≤ 480 then (if (I2 215 7) = 20 then some ((-3), I2) else (if j_ok (I2 215 7) 20 = true then j_let (j_wr I2 219 (j_ix (I2 215 7)) x1) (fun I3 => (if j_ok (I3 215 7) 20 = true then j_let (j_wr I3 220 (j_ix (I3 215 7)) x2) (fun I4 => j_let (j_wr I4 215 7 ((I4 215 7) + 1)) (fun I5 => some (I5 215 7, I5))) else none)) else none)) else some ((-1), I2)))))
set_option maxRecDepth 100000 in
set_option maxHeartbeats 4000000 in
theorem k_M_rain {l : Launch} {g : j_G} {b n : Nat} {P : j_R} {F : Nat} (hF : j_Fx 0 260 P) (hn : 260 ≤ n) {x1 : Int32} {x2 : Int32} {I : j_M} {r : Int32 × j_M}  (h : f_M_rain F x1 x2 I = some r) : j_Met l g b n P 1 jy_M_rain jb_M_rain 3 (some .int) [.ref (b + 215), .int x1, .int x2] I r.2 (some (.int r.1)) := by
  unfold f_M_rain at h
  refine j_enter (plainFor_of_name (by decide)) (Nat.le_of_ble_eq_true rfl) [some (.ref (b + 215)), some (.int x1), some (.int x2)] rfl ?_
  intro p e R s m args below meth c X0 hnm hRc hRs
  have X : j_X p R s m args meth c g b 1 jb_M_rain 3 "PleasureGardenModel" (some .int) := X0
  clear X0
  refine j_iload_n X jd_M_rain_0 rfl rfl ?_
  refine j_aload_n X jd_M_rain_1 rfl rfl ?_
  refine j_get X jf_M_171 jk_12_2 js_215 (j_lt rfl hn) jd_M_rain_2 ?_
  refine j_sipush (v := 479) X jd_M_rain_5 (by decide) ?_
  refine j_callSi (As := [.int x1, .int (I 215 2), .int 479]) (st := []) X h ⟨jqc_M_among, jqs_M_among, jqn_M⟩ jlm_M_158 jh_M_among.2 rfl (by decide) (by decide) (Nat.le_of_ble_eq_true rfl) ⟨Nat.zero_le _, Nat.zero_le _⟩ (fun v0 I0 h => k_M_among (r := (v0, I0)) hF hn h) jd_M_rain_8 rfl (fun v1 I2 h => ?_)
  refine j_if_eq (tgt := 26) X jd_M_rain_11 rfl h (fun h => ?_) (fun h => ?_)
  · refine j_iconst (v := (-1)) X jd_M_rain_26 (by decide) ?_
    exact j_iret X rfl jd_M_rain_27 h
  · refine j_iload_n X jd_M_rain_14 rfl rfl ?_
    refine j_iload_n X jd_M_rain_15 rfl rfl ?_
    refine j_icmp_le (tgt := 26) X jd_M_rain_16 rfl h (fun h => ?_) (fun h => ?_)
    · refine j_iconst (v := (-1)) X jd_M_rain_26 (by decide) ?_
      exact j_iret X rfl jd_M_rain_27 h
    · refine j_iload_n X jd_M_rain_19 rfl rfl ?_
      refine j_sipush (v := 480) X jd_M_rain_20 (by decide) ?_
      refine j_icmp_le (tgt := 28) X jd_M_rain_23 rfl h (fun h => ?_) (fun h => ?_)
      · refine j_aload_n X jd_M_rain_28 rfl rfl ?_
        refine j_get X jf_M_174 jk_12_7 js_215 (j_lt rfl hn) jd_M_rain_29 ?_
        refine j_bipush (v := 20) X jd_M_rain_32 (by decide) ?_
        refine j_icmp_ne (tgt := 40) X jd_M_rain_34 rfl h (fun h => ?_) (fun h => ?_)
        · refine j_bipush (v := (-3)) X jd_M_rain_37 (by decide) ?_
          exact j_iret X rfl jd_M_rain_39 h
        · refine j_aload_n X jd_M_rain_40 rfl rfl ?_
          refine j_getr X jf_M_20 jk_12_8 js_215 (j_lt rfl hn) (jp_215_8 hF) jd_M_rain_41 ?_
          refine j_aload_n X jd_M_rain_44 rfl rfl ?_
          refine j_get X jf_M_174 jk_12_7 js_215 (j_lt rfl hn) jd_M_rain_45 ?_
          refine j_iload_n X jd_M_rain_48 rfl rfl ?_
          refine j_iast X js_219 (j_lt rfl hn) jd_M_rain_49 h (fun h => ?_)
          refine j_mem h (fun I3 h => ?_)
          refine j_aload_n X jd_M_rain_50 rfl rfl ?_
          refine j_getr X jf_M_23 jk_12_9 js_215 (j_lt rfl hn) (jp_215_9 hF) jd_M_rain_51 ?_
          refine j_aload_n X jd_M_rain_54 rfl rfl ?_
          refine j_get X jf_M_174 jk_12_7 js_215 (j_lt rfl hn) jd_M_rain_55 ?_
          refine j_iload_n X jd_M_rain_58 rfl rfl ?_
          refine j_iast X js_220 (j_lt rfl hn) jd_M_rain_59 h (fun h => ?_)
          refine j_mem h (fun I4 h => ?_)
          refine j_aload_n X jd_M_rain_60 rfl rfl ?_
          refine j_dup X jd_M_rain_61 rfl ?_
          refine j_get X jf_M_174 jk_12_7 js_215 (j_lt rfl hn) jd_M_rain_62 ?_
          refine j_iconst (v := 1) X jd_M_rain_65 (by decide) ?_
          refine j_iadd X jd_M_rain_66 ?_
          refine j_puti X jt_M jto_M jn_M jf_M_174 jk_12_7 js_215 (j_lt rfl hn) (Or.inl rfl) rfl jd_M_rain_67 ?_
          refine j_mem h (fun I5 h => ?_)
          refine j_aload_n X jd_M_rain_70 rfl rfl ?_
          refine j_get X jf_M_174 jk_12_7 js_215 (j_lt rfl hn) jd_M_rain_71 ?_
          exact j_iret X rfl jd_M_rain_74 h
      · refine j_iconst (v := (-1)) X jd_M_rain_26 (by decide) ?_
        exact j_iret X rfl jd_M_rain_27 h
-- PleasureGardenModel.rainSince(I)I
theorem jd_M_rainSince_0 : decode jb_M_rainSince 0 = .ok (.iconst 0, 1) := by decide +kernel
theorem jd_M_rainSince_1 : decode jb_M_rainSince 1 = .ok (.istore_n 2, 1) := by decide +kernel
theorem jd_M_rainSince_2 : decode jb_M_rainSince 2 = .ok (.iload_n 1, 1) := by decide +kernel
theorem jd_M_rainSince_3 : decode jb_M_rainSince 3 = .ok (.istore_n 3, 1) := by decide +kernel
theorem jd_M_rainSince_4 : decode jb_M_rainSince 4 = .ok (.iload_n 3, 1) := by decide +kernel
theorem jd_M_rainSince_5 : decode jb_M_rainSince 5 = .ok (.aload_n 0, 1) := by decide +kernel
theorem jd_M_rainSince_6 : decode jb_M_rainSince 6 = .ok (.getfield 171, 3) := by decide +kernel
theorem jd_M_rainSince_9 : decode jb_M_rainSince 9 = .ok (.if_icmp .gt 25, 3) := by decide +kernel
theorem jd_M_rainSince_12 : decode jb_M_rainSince 12 = .ok (.iload_n 2, 1) := by decide +kernel
theorem jd_M_rainSince_13 : decode jb_M_rainSince 13 = .ok (.aload_n 0, 1) := by decide +kernel
theorem jd_M_rainSince_14 : decode jb_M_rainSince 14 = .ok (.iload_n 3, 1) := by decide +kernel
theorem jd_M_rainSince_15 : decode jb_M_rainSince 15 = .ok (.invokevirtual 177, 3) := by decide +kernel
theorem jd_M_rainSince_18 : decode jb_M_rainSince 18 = .ok (.ifCond .eq 7, 3) := by decide +kernel
theorem jd_M_rainSince_21 : decode jb_M_rainSince 21 = .ok (.iconst 1, 1) := by decide +kernel
theorem jd_M_rainSince_22 : decode jb_M_rainSince 22 = .ok (.goto 4, 3) := by decide +kernel
theorem jd_M_rainSince_25 : decode jb_M_rainSince 25 = .ok (.iconst 0, 1) := by decide +kernel
theorem jd_M_rainSince_26 : decode jb_M_rainSince 26 = .ok (.iadd, 1) := by decide +kernel
theorem jd_M_rainSince_27 : decode jb_M_rainSince 27 = .ok (.istore_n 2, 1) := by decide +kernel
theorem jd_M_rainSince_28 : decode jb_M_rainSince 28 = .ok (.iinc 3 1, 3) := by decide +kernel
theorem jd_M_rainSince_31 : decode jb_M_rainSince 31 = .ok (.goto (-27), 3) := by decide +kernel
theorem jd_M_rainSince_34 : decode jb_M_rainSince 34 = .ok (.iload_n 2, 1) := by decide +kernel
theorem jd_M_rainSince_35 : decode jb_M_rainSince 35 = .ok (.ireturn, 1) := by decide +kernel
def f_M_rainSince_26 (F : Nat) (kb4 : Int32 → Int32 → j_M → Option (Int32 × j_M)) (x3 : Int32) (s0 : Int32) (s1 : Int32) (I : j_M) : Option (Int32 × j_M) := j_let (s0 + s1) (fun v1 => j_let (x3 + 1) (fun v2 => kb4 v1 v2 I))
def f_M_rainSince_4b (F : Nat) (kb4 : Int32 → Int32 → j_M → Option (Int32 × j_M)) (x2 : Int32) (x3 : Int32) (I : j_M) : Option (Int32 × j_M) := (if (I 215 2) < x3 then some (x2, I) else j_bd (f_M_rainsIn F x3 I) (fun v3 I4 => (if v3 = 0 then f_M_rainSince_26 F kb4 x3 x2 0 I4 else f_M_rainSince_26 F kb4 x3 x2 1 I4)))
def f_M_rainSince_4 (F : Nat)  (x2 : Int32) (x3 : Int32) (I : j_M) : Option (Int32 × j_M) := j_it (fun (again : Int32 × Int32 × j_M → Option (Int32 × j_M)) (q : Int32 × Int32 × j_M) => f_M_rainSince_4b F  (fun x2 x3 I => again (x2, x3, I))  q.1 q.2.1 q.2.2) F (x2, x3, I)
def f_M_rainSince (F : Nat) (x1 : Int32) (I : j_M) : Option (Int32 × j_M) := f_M_rainSince_4 F 0 x1 I
set_option maxRecDepth 100000 in
set_option maxHeartbeats 4000000 in
theorem k_M_rainSince_26 {p : Program} {l : Launch} {e : Env} {R : Room} {s : State} {m : MethodId} {args : Array Value} {below : List Frame} {meth : Method} {c : Code} {g : j_G} {b n : Nat} {P : j_R} {F : Nat} (hF : j_Fx 0 260 P) (hn : 260 ≤ n) (X : j_X p R s m args meth c g b 1 jb_M_rainSince 4 "PleasureGardenModel" (some .int)) {kb4 : Int32 → Int32 → j_M → Option (Int32 × j_M)} (hkb4 : ∀ (x2 : Int32) (x3 : Int32) (I : j_M) (r : Int32 × j_M), kb4 x2 x3 I = some r → j_W p l e R s m args below meth c 4 g b n 0 0 (j_Qi g b n P below args s r) I P 4 [some (.ref (b + 215)), none, some (.int x2), some (.int x3)] []) {x3 : Int32} {s0 : Int32} {s1 : Int32} {I : j_M} {r : Int32 × j_M}  (h : f_M_rainSince_26 F kb4 x3 s0 s1 I = some r) : j_W p l e R s m args below meth c 4 g b n 0 0 (j_Qi g b n P below args s r) I P 26 [some (.ref (b + 215)), none, none, some (.int x3)] [.int s1, .int s0] := by
  unfold f_M_rainSince_26 at h
  refine j_iadd X jd_M_rainSince_26 ?_
  refine j_nm h (fun v1 h => ?_)
  refine j_istore_n (lv' := [some (.ref (b + 215)), none, some (.int v1), some (.int x3)]) X jd_M_rainSince_27 rfl (by decide) rfl ?_
  obtain ⟨v2, ev2, h⟩ := j_ex h
  refine j_iinc (v := v2) (lv' := [some (.ref (b + 215)), none, some (.int v1), some (.int v2)]) X jd_M_rainSince_28 rfl (by rw [ev2]; rfl) (by decide) rfl ?_
  refine j_goto (tgt := 4) X jd_M_rainSince_31 rfl ?_
  exact hkb4 _ _ _ _ h
set_option maxRecDepth 100000 in
set_option maxHeartbeats 4000000 in
theorem k_M_rainSince_4b {p : Program} {l : Launch} {e : Env} {R : Room} {s : State} {m : MethodId} {args : Array Value} {below : List Frame} {meth : Method} {c : Code} {g : j_G} {b n : Nat} {P : j_R} {F : Nat} (hF : j_Fx 0 260 P) (hn : 260 ≤ n) (X : j_X p R s m args meth c g b 1 jb_M_rainSince 4 "PleasureGardenModel" (some .int)) {kb4 : Int32 → Int32 → j_M → Option (Int32 × j_M)} (hkb4 : ∀ (x2 : Int32) (x3 : Int32) (I : j_M) (r : Int32 × j_M), kb4 x2 x3 I = some r → j_W p l e R s m args below meth c 4 g b n 0 0 (j_Qi g b n P below args s r) I P 4 [some (.ref (b + 215)), none, some (.int x2), some (.int x3)] []) {x2 : Int32} {x3 : Int32} {I : j_M} {r : Int32 × j_M}  (h : f_M_rainSince_4b F kb4 x2 x3 I = some r) : j_W p l e R s m args below meth c 4 g b n 0 0 (j_Qi g b n P below args s r) I P 4 [some (.ref (b + 215)), none, some (.int x2), some (.int x3)] [] := by
  unfold f_M_rainSince_4b at h
  refine j_iload_n X jd_M_rainSince_4 rfl rfl ?_
  refine j_aload_n X jd_M_rainSince_5 rfl rfl ?_
  refine j_get X jf_M_171 jk_12_2 js_215 (j_lt rfl hn) jd_M_rainSince_6 ?_
  refine j_icmp_gt (tgt := 34) X jd_M_rainSince_9 rfl h (fun h => ?_) (fun h => ?_)
  · refine j_iload_n X jd_M_rainSince_34 rfl rfl ?_
    exact j_iret X rfl jd_M_rainSince_35 h
  · refine j_iload_n X jd_M_rainSince_12 rfl rfl ?_
    refine j_aload_n X jd_M_rainSince_13 rfl rfl ?_
    refine j_iload_n X jd_M_rainSince_14 rfl rfl ?_
    refine j_callVi (As := [.int x3]) (st := [.int x2]) (c0 := 215) X h jc_M js_215 (j_lt rfl hn) ⟨jqc_M_rainsIn, jqi_M_rainsIn, jqv_M_rainsIn, jqn_M⟩ jlm_M_177 jh_M_rainsIn rfl (by decide) (by decide) (Nat.le_of_ble_eq_true rfl) ⟨Nat.zero_le _, Nat.zero_le _⟩ (fun v0 I0 h => k_M_rainsIn (r := (v0, I0)) hF hn h) jd_M_rainSince_15 rfl (fun v3 I4 h => ?_)
    refine j_if_eq (tgt := 25) X jd_M_rainSince_18 rfl h (fun h => ?_) (fun h => ?_)
    · refine j_iconst (v := 0) X jd_M_rainSince_25 (by decide) ?_
      refine j_sub [true, false, false, true] (lv' := [some (.ref (b + 215)), none, none, some (.int x3)]) rfl ?_
      exact k_M_rainSince_26 hF hn X hkb4 h
    · refine j_iconst (v := 1) X jd_M_rainSince_21 (by decide) ?_
      refine j_goto (tgt := 26) X jd_M_rainSince_22 rfl ?_
      refine j_sub [true, false, false, true] (lv' := [some (.ref (b + 215)), none, none, some (.int x3)]) rfl ?_
      exact k_M_rainSince_26 hF hn X hkb4 h
set_option maxRecDepth 100000 in
set_option maxHeartbeats 4000000 in
theorem k_M_rainSince_4 {p : Program} {l : Launch} {e : Env} {R : Room} {s : State} {m : MethodId} {args : Array Value} {below : List Frame} {meth : Method} {c : Code} {g : j_G} {b n : Nat} {P : j_R} {F : Nat} (hF : j_Fx 0 260 P) (hn : 260 ≤ n) (X : j_X p R s m args meth c g b 1 jb_M_rainSince 4 "PleasureGardenModel" (some .int))  {x2 : Int32} {x3 : Int32} {I : j_M} {r : Int32 × j_M} (h : f_M_rainSince_4 F x2 x3 I = some r) : j_W p l e R s m args below meth c 4 g b n 0 0 (j_Qi g b n P below args s r) I P 4 [some (.ref (b + 215)), none, some (.int x2), some (.int x3)] [] := by
  refine j_loop (G := fun (q : Int32 × Int32 × j_M) (r : Int32 × j_M) => j_W p l e R s m args below meth c 4 g b n 0 0 (j_Qi g b n P below args s r) q.2.2 P 4 [some (.ref (b + 215)), none, some (.int (q.1)), some (.int (q.2.1))] []) ?_ F (x2, x3, I) r h
  intro again hrec0 q r h
  exact k_M_rainSince_4b hF hn X (fun x2 x3 I r h => hrec0 (x2, x3, I) r h)  h
set_option maxRecDepth 100000 in
set_option maxHeartbeats 4000000 in
theorem k_M_rainSince {l : Launch} {g : j_G} {b n : Nat} {P : j_R} {F : Nat} (hF : j_Fx 0 260 P) (hn : 260 ≤ n) {x1 : Int32} {I : j_M} {r : Int32 × j_M}  (h : f_M_rainSince F x1 I = some r) : j_Met l g b n P 1 jy_M_rainSince jb_M_rainSince 4 (some .int) [.ref (b + 215), .int x1] I r.2 (some (.int r.1)) := by
  unfold f_M_rainSince at h
  refine j_enter (plainFor_of_name (by decide)) (Nat.le_of_ble_eq_true rfl) [some (.ref (b + 215)), some (.int x1), none, none] rfl ?_
  intro p e R s m args below meth c X0 hnm hRc hRs
  have X : j_X p R s m args meth c g b 1 jb_M_rainSince 4 "PleasureGardenModel" (some .int) := X0
  clear X0
  refine j_iconst (v := 0) X jd_M_rainSince_0 (by decide) ?_
  refine j_istore_n (lv' := [some (.ref (b + 215)), some (.int x1), some (.int 0), none]) X jd_M_rainSince_1 rfl (by decide) rfl ?_
  refine j_iload_n X jd_M_rainSince_2 rfl rfl ?_
  refine j_istore_n (lv' := [some (.ref (b + 215)), some (.int x1), some (.int 0), some (.int x1)]) X jd_M_rainSince_3 rfl (by decide) rfl ?_
  refine j_sub [true, false, true, true] (lv' := [some (.ref (b + 215)), none, some (.int 0), some (.int x1)]) rfl ?_
  exact k_M_rainSince_4 hF hn X h
-- PleasureGardenModel.isParty(I)Z
theorem jd_M_isParty_0 : decode jb_M_isParty 0 = .ok (.iload_n 1, 1) := by decide +kernel
theorem jd_M_isParty_1 : decode jb_M_isParty 1 = .ok (.iconst 0, 1) := by decide +kernel
theorem jd_M_isParty_2 : decode jb_M_isParty 2 = .ok (.aload_n 0, 1) := by decide +kernel
theorem jd_M_isParty_3 : decode jb_M_isParty 3 = .ok (.getfield 180, 3) := by decide +kernel
theorem jd_M_isParty_6 : decode jb_M_isParty 6 = .ok (.iconst 1, 1) := by decide +kernel
theorem jd_M_isParty_7 : decode jb_M_isParty 7 = .ok (.isub, 1) := by decide +kernel
theorem jd_M_isParty_8 : decode jb_M_isParty 8 = .ok (.invokestatic 158, 3) := by decide +kernel
theorem jd_M_isParty_11 : decode jb_M_isParty 11 = .ok (.ireturn, 1) := by decide +kernel
def f_M_isParty (F : Nat) (x1 : Int32) (I : j_M) : Option (Int32 × j_M) := j_bd (f_M_among F x1 0 ((I 215 12) - 1) I) (fun v1 I2 => (if v1 &&& 1 = v1 then some (v1, I2) else none))
set_option maxRecDepth 100000 in
set_option maxHeartbeats 4000000 in
theorem k_M_isParty {l : Launch} {g : j_G} {b n : Nat} {P : j_R} {F : Nat} (hF : j_Fx 0 260 P) (hn : 260 ≤ n) {x1 : Int32} {I : j_M} {r : Int32 × j_M}  (h : f_M_isParty F x1 I = some r) : j_Met l g b n P 1 jy_M_isParty jb_M_isParty 2 (some .boolean) [.ref (b + 215), .int x1] I r.2 (some (.int r.1)) := by
  unfold f_M_isParty at h
  refine j_enter (plainFor_of_name (by decide)) (Nat.le_of_ble_eq_true rfl) [some (.ref (b + 215)), some (.int x1)] rfl ?_
  intro p e R s m args below meth c X0 hnm hRc hRs
  have X : j_X p R s m args meth c g b 1 jb_M_isParty 2 "PleasureGardenModel" (some .boolean) := X0
  clear X0
  refine j_iload_n X jd_M_isParty_0 rfl rfl ?_
  refine j_iconst (v := 0) X jd_M_isParty_1 (by decide) ?_
  refine j_aload_n X jd_M_isParty_2 rfl rfl ?_
  refine j_get X jf_M_180 jk_12_12 js_215 (j_lt rfl hn) jd_M_isParty_3 ?_
  refine j_iconst (v := 1) X jd_M_isParty_6 (by decide) ?_
  refine j_isub X jd_M_isParty_7 ?_
  refine j_callSi (As := [.int x1, .int 0, .int ((I 215 12) - 1)]) (st := []) X h ⟨jqc_M_among, jqs_M_among, jqn_M⟩ jlm_M_158 jh_M_among.2 rfl (by decide) (by decide) (Nat.le_of_ble_eq_true rfl) ⟨Nat.zero_le _, Nat.zero_le _⟩ (fun v0 I0 h => k_M_among (r := (v0, I0)) hF hn h) jd_M_isParty_8 rfl (fun v1 I2 h => ?_)
  refine j_guard h (fun hz h => ?_)
  exact j_zret X rfl hz jd_M_isParty_11 h
-- PleasureGardenModel.isTicket(I)Z
theorem jd_M_isTicket_0 : decode jb_M_isTicket 0 = .ok (.iload_n 0, 1) := by decide +kernel
theorem jd_M_isTicket_1 : decode jb_M_isTicket 1 = .ok (.iconst 0, 1) := by decide +kernel
theorem jd_M_isTicket_2 : decode jb_M_isTicket 2 = .ok (.sipush 299, 3) := by decide +kernel
theorem jd_M_isTicket_5 : decode jb_M_isTicket 5 = .ok (.invokestatic 158, 3) := by decide +kernel
theorem jd_M_isTicket_8 : decode jb_M_isTicket 8 = .ok (.ireturn, 1) := by decide +kernel
def f_M_isTicket (F : Nat) (x0 : Int32) (I : j_M) : Option (Int32 × j_M) := j_bd (f_M_among F x0 0 299 I) (fun v1 I2 => (if v1 &&& 1 = v1 then some (v1, I2) else none))
set_option maxRecDepth 100000 in
set_option maxHeartbeats 4000000 in
theorem k_M_isTicket {l : Launch} {g : j_G} {b n : Nat} {P : j_R} {F : Nat} (hF : j_Fx 0 260 P) (hn : 260 ≤ n) {x0 : Int32} {I : j_M} {r : Int32 × j_M}  (h : f_M_isTicket F x0 I = some r) : j_Met l g b n P 1 jy_M_isTicket jb_M_isTicket 1 (some .boolean) [.int x0] I r.2 (some (.int r.1)) := by
  unfold f_M_isTicket at h
  refine j_enter (plainFor_of_name (by decide)) (Nat.le_of_ble_eq_true rfl) [some (.int x0)] rfl ?_
  intro p e R s m args below meth c X0 hnm hRc hRs
  have X : j_X p R s m args meth c g b 1 jb_M_isTicket 1 "PleasureGardenModel" (some .boolean) := X0
  clear X0
  refine j_iload_n X jd_M_isTicket_0 rfl rfl ?_
  refine j_iconst (v := 0) X jd_M_isTicket_1 (by decide) ?_
  refine j_sipush (v := 299) X jd_M_isTicket_2 (by decide) ?_
  refine j_callSi (As := [.int x0, .int 0, .int 299]) (st := []) X h ⟨jqc_M_among, jqs_M_among, jqn_M⟩ jlm_M_158 jh_M_among.2 rfl (by decide) (by decide) (Nat.le_of_ble_eq_true rfl) ⟨Nat.zero_le _, Nat.zero_le _⟩ (fun v0 I0 h => k_M_among (r := (v0, I0)) hF hn h) jd_M_isTicket_5 rfl (fun v1 I2 h => ?_)
  refine j_guard h (fun hz h => ?_)
  exact j_zret X rfl hz jd_M_isTicket_8 h
-- PleasureGardenModel.getsUp(I)V
theorem jd_M_getsUp_0 : decode jb_M_getsUp 0 = .ok (.aload_n 0, 1) := by decide +kernel
theorem jd_M_getsUp_1 : decode jb_M_getsUp 1 = .ok (.getfield 47, 3) := by decide +kernel
theorem jd_M_getsUp_4 : decode jb_M_getsUp 4 = .ok (.iload_n 1, 1) := by decide +kernel
theorem jd_M_getsUp_5 : decode jb_M_getsUp 5 = .ok (.iaload, 1) := by decide +kernel
theorem jd_M_getsUp_6 : decode jb_M_getsUp 6 = .ok (.ifCond .ge 4, 3) := by decide +kernel
theorem jd_M_getsUp_9 : decode jb_M_getsUp 9 = .ok (.return_, 1) := by decide +kernel
theorem jd_M_getsUp_10 : decode jb_M_getsUp 10 = .ok (.aload_n 0, 1) := by decide +kernel
theorem jd_M_getsUp_11 : decode jb_M_getsUp 11 = .ok (.getfield 47, 3) := by decide +kernel
theorem jd_M_getsUp_14 : decode jb_M_getsUp 14 = .ok (.iload_n 1, 1) := by decide +kernel
theorem jd_M_getsUp_15 : decode jb_M_getsUp 15 = .ok (.iconst (-1), 1) := by decide +kernel
theorem jd_M_getsUp_16 : decode jb_M_getsUp 16 = .ok (.iastore, 1) := by decide +kernel
theorem jd_M_getsUp_17 : decode jb_M_getsUp 17 = .ok (.iconst 0, 1) := by decide +kernel
theorem jd_M_getsUp_18 : decode jb_M_getsUp 18 = .ok (.istore_n 2, 1) := by decide +kernel
theorem jd_M_getsUp_19 : decode jb_M_getsUp 19 = .ok (.iconst 0, 1) := by decide +kernel
theorem jd_M_getsUp_20 : decode jb_M_getsUp 20 = .ok (.istore_n 3, 1) := by decide +kernel
theorem jd_M_getsUp_21 : decode jb_M_getsUp 21 = .ok (.iload_n 3, 1) := by decide +kernel
theorem jd_M_getsUp_22 : decode jb_M_getsUp 22 = .ok (.aload_n 0, 1) := by decide +kernel
theorem jd_M_getsUp_23 : decode jb_M_getsUp 23 = .ok (.getfield 196, 3) := by decide +kernel
theorem jd_M_getsUp_26 : decode jb_M_getsUp 26 = .ok (.if_icmp .ge 31, 3) := by decide +kernel
theorem jd_M_getsUp_29 : decode jb_M_getsUp 29 = .ok (.aload_n 0, 1) := by decide +kernel
theorem jd_M_getsUp_30 : decode jb_M_getsUp 30 = .ok (.getfield 98, 3) := by decide +kernel
theorem jd_M_getsUp_33 : decode jb_M_getsUp 33 = .ok (.iload_n 3, 1) := by decide +kernel
theorem jd_M_getsUp_34 : decode jb_M_getsUp 34 = .ok (.iaload, 1) := by decide +kernel
theorem jd_M_getsUp_35 : decode jb_M_getsUp 35 = .ok (.iload_n 1, 1) := by decide +kernel
theorem jd_M_getsUp_36 : decode jb_M_getsUp 36 = .ok (.if_icmp .ne 6, 3) := by decide +kernel
theorem jd_M_getsUp_39 : decode jb_M_getsUp 39 = .ok (.goto 12, 3) := by decide +kernel
theorem jd_M_getsUp_42 : decode jb_M_getsUp 42 = .ok (.aload_n 0, 1) := by decide +kernel
theorem jd_M_getsUp_43 : decode jb_M_getsUp 43 = .ok (.iload_n 3, 1) := by decide +kernel
theorem jd_M_getsUp_44 : decode jb_M_getsUp 44 = .ok (.iload_n 2, 1) := by decide +kernel
theorem jd_M_getsUp_45 : decode jb_M_getsUp 45 = .ok (.invokevirtual 199, 3) := by decide +kernel
theorem jd_M_getsUp_48 : decode jb_M_getsUp 48 = .ok (.iinc 2 1, 3) := by decide +kernel
theorem jd_M_getsUp_51 : decode jb_M_getsUp 51 = .ok (.iinc 3 1, 3) := by decide +kernel
theorem jd_M_getsUp_54 : decode jb_M_getsUp 54 = .ok (.goto (-33), 3) := by decide +kernel
theorem jd_M_getsUp_57 : decode jb_M_getsUp 57 = .ok (.aload_n 0, 1) := by decide +kernel
theorem jd_M_getsUp_58 : decode jb_M_getsUp 58 = .ok (.iload_n 2, 1) := by decide +kernel
theorem jd_M_getsUp_59 : decode jb_M_getsUp 59 = .ok (.putfield 196, 3) := by decide +kernel
theorem jd_M_getsUp_62 : decode jb_M_getsUp 62 = .ok (.return_, 1) := by decide +kernel
def f_M_getsUp_51 (F : Nat) (kb21 : Int32 → Int32 → Int32 → j_M → Option (Int32 × j_M)) (x1 : Int32) (x2 : Int32) (x3 : Int32) (I : j_M) : Option (Int32 × j_M) := j_let (x3 + 1) (fun v1 => kb21 x1 x2 v1 I)
def f_M_getsUp_21b (F : Nat) (kb21 : Int32 → Int32 → Int32 → j_M → Option (Int32 × j_M)) (x1 : Int32) (x2 : Int32) (x3 : Int32) (I : j_M) : Option (Int32 × j_M) := (if (I 215 46) ≤ x3 then j_let (j_wr I 215 46 x2) (fun I2 => some (0, I2)) else (if j_ok x3 60 = true then (if (I 242 (j_ix x3)) = x1 then f_M_getsUp_51 F kb21 x1 x2 x3 I else j_bd (f_M_shift F x3 x2 I) (fun v3 I4 => j_let (x2 + 1) (fun v5 => f_M_getsUp_51 F kb21 x1 v5 x3 I4))) else none))
def f_M_getsUp_21 (F : Nat)  (x1 : Int32) (x2 : Int32) (x3 : Int32) (I : j_M) : Option (Int32 × j_M) := j_it (fun (again : Int32 × Int32 × Int32 × j_M → Option (Int32 × j_M)) (q : Int32 × Int32 × Int32 × j_M) => f_M_getsUp_21b F  (fun x1 x2 x3 I => again (x1, x2, x3, I))  q.1 q.2.1 q.2.2.1 q.2.2.2) F (x1, x2, x3, I)
def f_M_getsUp (F : Nat) (x1 : Int32) (I : j_M) : Option (Int32 × j_M) := (if j_ok x1 100 = true then (if 0 ≤ (I 228 (j_ix x1)) then (if j_ok x1 100 = true then j_let (j_wr I 228 (j_ix x1) (-1)) (fun I6 => f_M_getsUp_21 F x1 0 0 I6) else none) else some (0, I)) else none)
set_option maxRecDepth 100000 in
set_option maxHeartbeats 4000000 in
theorem k_M_getsUp_51 {p : Program} {l : Launch} {e : Env} {R : Room} {s : State} {m : MethodId} {args : Array Value} {below : List Frame} {meth : Method} {c : Code} {g : j_G} {b n : Nat} {P : j_R} {F : Nat} (hF : j_Fx 0 260 P) (hn : 260 ≤ n) (X : j_X p R s m args meth c g b 1 jb_M_getsUp 4 "PleasureGardenModel" none) {kb21 : Int32 → Int32 → Int32 → j_M → Option (Int32 × j_M)} (hkb21 : ∀ (x1 : Int32) (x2 : Int32) (x3 : Int32) (I : j_M) (r : Int32 × j_M), kb21 x1 x2 x3 I = some r → j_W p l e R s m args below meth c 4 g b n 0 0 (j_Qv g b n P below args s r) I P 21 [some (.ref (b + 215)), some (.int x1), some (.int x2), some (.int x3)] []) {x1 : Int32} {x2 : Int32} {x3 : Int32} {I : j_M} {r : Int32 × j_M}  (h : f_M_getsUp_51 F kb21 x1 x2 x3 I = some r) : j_W p l e R s m args below meth c 4 g b n 0 0 (j_Qv g b n P below args s r) I P 51 [some (.ref (b + 215)), some (.int x1), some (.int x2), some (.int x3)] [] := by
  unfold f_M_getsUp_51 at h
  obtain ⟨v1, ev1, h⟩ := j_ex h
  refine j_iinc (v := v1) (lv' := [some (.ref (b + 215)), some (.int x1), some (.int x2), some (.int v1)]) X jd_M_getsUp_51 rfl (by rw [ev1]; rfl) (by decide) rfl ?_
  refine j_goto (tgt := 21) X jd_M_getsUp_54 rfl ?_
  exact hkb21 _ _ _ _ _ h
set_option maxRecDepth 100000 in
set_option maxHeartbeats 4000000 in
theorem k_M_getsUp_21b {p : Program} {l : Launch} {e : Env} {R : Room} {s : State} {m : MethodId} {args : Array Value} {below : List Frame} {meth : Method} {c : Code} {g : j_G} {b n : Nat} {P : j_R} {F : Nat} (hF : j_Fx 0 260 P) (hn : 260 ≤ n) (X : j_X p R s m args meth c g b 1 jb_M_getsUp 4 "PleasureGardenModel" none) {kb21 : Int32 → Int32 → Int32 → j_M → Option (Int32 × j_M)} (hkb21 : ∀ (x1 : Int32) (x2 : Int32) (x3 : Int32) (I : j_M) (r : Int32 × j_M), kb21 x1 x2 x3 I = some r → j_W p l e R s m args below meth c 4 g b n 0 0 (j_Qv g b n P below args s r) I P 21 [some (.ref (b + 215)), some (.int x1), some (.int x2), some (.int x3)] []) {x1 : Int32} {x2 : Int32} {x3 : Int32} {I : j_M} {r : Int32 × j_M}  (h : f_M_getsUp_21b F kb21 x1 x2 x3 I = some r) : j_W p l e R s m args below meth c 4 g b n 0 0 (j_Qv g b n P below args s r) I P 21 [some (.ref (b + 215)), some (.int x1), some (.int x2), some (.int x3)] [] := by
  unfold f_M_getsUp_21b at h
  refine j_iload_n X jd_M_getsUp_21 rfl rfl ?_
  refine j_aload_n X jd_M_getsUp_22 rfl rfl ?_
  refine j_get X jf_M_196 jk_12_46 js_215 (j_lt rfl hn) jd_M_getsUp_23 ?_
  refine j_icmp_ge (tgt := 57) X jd_M_getsUp_26 rfl h (fun h => ?_) (fun h => ?_)
  · refine j_aload_n X jd_M_getsUp_57 rfl rfl ?_
    refine j_iload_n X jd_M_getsUp_58 rfl rfl ?_
    refine j_puti X jt_M jto_M jn_M jf_M_196 jk_12_46 js_215 (j_lt rfl hn) (Or.inl rfl) rfl jd_M_getsUp_59 ?_
    refine j_mem h (fun I2 h => ?_)
    exact j_vret X rfl jd_M_getsUp_62 h
  · refine j_aload_n X jd_M_getsUp_29 rfl rfl ?_
    refine j_getr X jf_M_98 jk_12_47 js_215 (j_lt rfl hn) (jp_215_47 hF) jd_M_getsUp_30 ?_
    refine j_iload_n X jd_M_getsUp_33 rfl rfl ?_
    refine j_iald X js_242 (j_lt rfl hn) jd_M_getsUp_34 h (fun _ h => ?_)
    refine j_iload_n X jd_M_getsUp_35 rfl rfl ?_
    refine j_icmp_ne (tgt := 42) X jd_M_getsUp_36 rfl h (fun h => ?_) (fun h => ?_)
    · refine j_goto (tgt := 51) X jd_M_getsUp_39 rfl ?_
      exact k_M_getsUp_51 hF hn X hkb21 h
    · refine j_aload_n X jd_M_getsUp_42 rfl rfl ?_
      refine j_iload_n X jd_M_getsUp_43 rfl rfl ?_
      refine j_iload_n X jd_M_getsUp_44 rfl rfl ?_
      refine j_callVv (As := [.int x3, .int x2]) (st := []) (c0 := 215) X h jc_M js_215 (j_lt rfl hn) ⟨jqc_M_shift, jqi_M_shift, jqv_M_shift, jqn_M⟩ jlm_M_199 jh_M_shift rfl (by decide) (by decide) (Nat.le_of_ble_eq_true rfl) ⟨Nat.zero_le _, Nat.zero_le _⟩ (fun v0 I0 h => k_M_shift (r := (v0, I0)) hF hn h) jd_M_getsUp_45 rfl (fun v3 I4 h => ?_)
      obtain ⟨v5, ev5, h⟩ := j_ex h
      refine j_iinc (v := v5) (lv' := [some (.ref (b + 215)), some (.int x1), some (.int v5), some (.int x3)]) X jd_M_getsUp_48 rfl (by rw [ev5]; rfl) (by decide) rfl ?_
      exact k_M_getsUp_51 hF hn X hkb21 h
set_option maxRecDepth 100000 in
set_option maxHeartbeats 4000000 in
theorem k_M_getsUp_21 {p : Program} {l : Launch} {e : Env} {R : Room} {s : State} {m : MethodId} {args : Array Value} {below : List Frame} {meth : Method} {c : Code} {g : j_G} {b n : Nat} {P : j_R} {F : Nat} (hF : j_Fx 0 260 P) (hn : 260 ≤ n) (X : j_X p R s m args meth c g b 1 jb_M_getsUp 4 "PleasureGardenModel" none)  {x1 : Int32} {x2 : Int32} {x3 : Int32} {I : j_M} {r : Int32 × j_M} (h : f_M_getsUp_21 F x1 x2 x3 I = some r) : j_W p l e R s m args below meth c 4 g b n 0 0 (j_Qv g b n P below args s r) I P 21 [some (.ref (b + 215)), some (.int x1), some (.int x2), some (.int x3)] [] := by
  refine j_loop (G := fun (q : Int32 × Int32 × Int32 × j_M) (r : Int32 × j_M) => j_W p l e R s m args below meth c 4 g b n 0 0 (j_Qv g b n P below args s r) q.2.2.2 P 21 [some (.ref (b + 215)), some (.int (q.1)), some (.int (q.2.1)), some (.int (q.2.2.1))] []) ?_ F (x1, x2, x3, I) r h
  intro again hrec0 q r h
  exact k_M_getsUp_21b hF hn X (fun x1 x2 x3 I r h => hrec0 (x1, x2, x3, I) r h)  h
set_option maxRecDepth 100000 in
set_option maxHeartbeats 4000000 in
theorem k_M_getsUp {l : Launch} {g : j_G} {b n : Nat} {P : j_R} {F : Nat} (hF : j_Fx 0 260 P) (hn : 260 ≤ n) {x1 : Int32} {I : j_M} {r : Int32 × j_M}  (h : f_M_getsUp F x1 I = some r) : j_Met l g b n P 1 jy_M_getsUp jb_M_getsUp 4 none [.ref (b + 215), .int x1] I r.2 none := by
  unfold f_M_getsUp at h
  refine j_enter (plainFor_of_name (by decide)) (Nat.le_of_ble_eq_true rfl) [some (.ref (b + 215)), some (.int x1), none, none] rfl ?_
  intro p e R s m args below meth c X0 hnm hRc hRs
  have X : j_X p R s m args meth c g b 1 jb_M_getsUp 4 "PleasureGardenModel" none := X0
  clear X0
  refine j_aload_n X jd_M_getsUp_0 rfl rfl ?_
  refine j_getr X jf_M_47 jk_12_18 js_215 (j_lt rfl hn) (jp_215_18 hF) jd_M_getsUp_1 ?_
  refine j_iload_n X jd_M_getsUp_4 rfl rfl ?_
  refine j_iald X js_228 (j_lt rfl hn) jd_M_getsUp_5 h (fun _ h => ?_)
  refine j_if_ge (tgt := 10) X jd_M_getsUp_6 rfl h (fun h => ?_) (fun h => ?_)
  · refine j_aload_n X jd_M_getsUp_10 rfl rfl ?_
    refine j_getr X jf_M_47 jk_12_18 js_215 (j_lt rfl hn) (jp_215_18 hF) jd_M_getsUp_11 ?_
    refine j_iload_n X jd_M_getsUp_14 rfl rfl ?_
    refine j_iconst (v := (-1)) X jd_M_getsUp_15 (by decide) ?_
    refine j_iast X js_228 (j_lt rfl hn) jd_M_getsUp_16 h (fun h => ?_)
    refine j_mem h (fun I6 h => ?_)
    refine j_iconst (v := 0) X jd_M_getsUp_17 (by decide) ?_
    refine j_istore_n (lv' := [some (.ref (b + 215)), some (.int x1), some (.int 0), none]) X jd_M_getsUp_18 rfl (by decide) rfl ?_
    refine j_iconst (v := 0) X jd_M_getsUp_19 (by decide) ?_
    refine j_istore_n (lv' := [some (.ref (b + 215)), some (.int x1), some (.int 0), some (.int 0)]) X jd_M_getsUp_20 rfl (by decide) rfl ?_
    exact k_M_getsUp_21 hF hn X h
  · exact j_vret X rfl jd_M_getsUp_9 h
-- PleasureGardenModel.isLamp(I)Z
theorem jd_M_isLamp_0 : decode jb_M_isLamp 0 = .ok (.iload_n 1, 1) := by decide +kernel
theorem jd_M_isLamp_1 : decode jb_M_isLamp 1 = .ok (.iconst 0, 1) := by decide +kernel
theorem jd_M_isLamp_2 : decode jb_M_isLamp 2 = .ok (.aload_n 0, 1) := by decide +kernel
theorem jd_M_isLamp_3 : decode jb_M_isLamp 3 = .ok (.getfield 232, 3) := by decide +kernel
theorem jd_M_isLamp_6 : decode jb_M_isLamp 6 = .ok (.iconst 1, 1) := by decide +kernel
theorem jd_M_isLamp_7 : decode jb_M_isLamp 7 = .ok (.isub, 1) := by decide +kernel
theorem jd_M_isLamp_8 : decode jb_M_isLamp 8 = .ok (.invokestatic 158, 3) := by decide +kernel
theorem jd_M_isLamp_11 : decode jb_M_isLamp 11 = .ok (.ireturn, 1) := by decide +kernel
def f_M_isLamp (F : Nat) (x1 : Int32) (I : j_M) : Option (Int32 × j_M) := j_bd (f_M_among F x1 0 ((I 215 28) - 1) I) (fun v1 I2 => (if v1 &&& 1 = v1 then some (v1, I2) else none))
set_option maxRecDepth 100000 in
set_option maxHeartbeats 4000000 in
theorem k_M_isLamp {l : Launch} {g : j_G} {b n : Nat} {P : j_R} {F : Nat} (hF : j_Fx 0 260 P) (hn : 260 ≤ n) {x1 : Int32} {I : j_M} {r : Int32 × j_M}  (h : f_M_isLamp F x1 I = some r) : j_Met l g b n P 1 jy_M_isLamp jb_M_isLamp 2 (some .boolean) [.ref (b + 215), .int x1] I r.2 (some (.int r.1)) := by
  unfold f_M_isLamp at h
  refine j_enter (plainFor_of_name (by decide)) (Nat.le_of_ble_eq_true rfl) [some (.ref (b + 215)), some (.int x1)] rfl ?_
  intro p e R s m args below meth c X0 hnm hRc hRs
  have X : j_X p R s m args meth c g b 1 jb_M_isLamp 2 "PleasureGardenModel" (some .boolean) := X0
  clear X0
  refine j_iload_n X jd_M_isLamp_0 rfl rfl ?_
  refine j_iconst (v := 0) X jd_M_isLamp_1 (by decide) ?_
  refine j_aload_n X jd_M_isLamp_2 rfl rfl ?_
  refine j_get X jf_M_232 jk_12_28 js_215 (j_lt rfl hn) jd_M_isLamp_3 ?_
  refine j_iconst (v := 1) X jd_M_isLamp_6 (by decide) ?_
  refine j_isub X jd_M_isLamp_7 ?_
  refine j_callSi (As := [.int x1, .int 0, .int ((I 215 28) - 1)]) (st := []) X h ⟨jqc_M_among, jqs_M_among, jqn_M⟩ jlm_M_158 jh_M_among.2 rfl (by decide) (by decide) (Nat.le_of_ble_eq_true rfl) ⟨Nat.zero_le _, Nat.zero_le _⟩ (fun v0 I0 h => k_M_among (r := (v0, I0)) hF hn h) jd_M_isLamp_8 rfl (fun v1 I2 h => ?_)
  refine j_guard h (fun hz h => ?_)
  exact j_zret X rfl hz jd_M_isLamp_11 h
-- PleasureGardenModel.lamp(I)I
theorem jd_M_lamp_0 : decode jb_M_lamp 0 = .ok (.iload_n 1, 1) := by decide +kernel
theorem jd_M_lamp_1 : decode jb_M_lamp 1 = .ok (.iconst 1, 1) := by decide +kernel
theorem jd_M_lamp_2 : decode jb_M_lamp 2 = .ok (.sipush 480, 3) := by decide +kernel
theorem jd_M_lamp_5 : decode jb_M_lamp 5 = .ok (.invokestatic 158, 3) := by decide +kernel
theorem jd_M_lamp_8 : decode jb_M_lamp 8 = .ok (.ifCond .ne 5, 3) := by decide +kernel
theorem jd_M_lamp_11 : decode jb_M_lamp 11 = .ok (.iconst (-1), 1) := by decide +kernel
theorem jd_M_lamp_12 : decode jb_M_lamp 12 = .ok (.ireturn, 1) := by decide +kernel
theorem jd_M_lamp_13 : decode jb_M_lamp 13 = .ok (.aload_n 0, 1) := by decide +kernel
theorem jd_M_lamp_14 : decode jb_M_lamp 14 = .ok (.getfield 232, 3) := by decide +kernel
theorem jd_M_lamp_17 : decode jb_M_lamp 17 = .ok (.bipush 40, 2) := by decide +kernel
theorem jd_M_lamp_19 : decode jb_M_lamp 19 = .ok (.if_icmp .ne 6, 3) := by decide +kernel
theorem jd_M_lamp_22 : decode jb_M_lamp 22 = .ok (.bipush (-3), 2) := by decide +kernel
theorem jd_M_lamp_24 : decode jb_M_lamp 24 = .ok (.ireturn, 1) := by decide +kernel
theorem jd_M_lamp_25 : decode jb_M_lamp 25 = .ok (.aload_n 0, 1) := by decide +kernel
theorem jd_M_lamp_26 : decode jb_M_lamp 26 = .ok (.getfield 67, 3) := by decide +kernel
theorem jd_M_lamp_29 : decode jb_M_lamp 29 = .ok (.aload_n 0, 1) := by decide +kernel
theorem jd_M_lamp_30 : decode jb_M_lamp 30 = .ok (.getfield 232, 3) := by decide +kernel
theorem jd_M_lamp_33 : decode jb_M_lamp 33 = .ok (.iload_n 1, 1) := by decide +kernel
theorem jd_M_lamp_34 : decode jb_M_lamp 34 = .ok (.iastore, 1) := by decide +kernel
theorem jd_M_lamp_35 : decode jb_M_lamp 35 = .ok (.aload_n 0, 1) := by decide +kernel
theorem jd_M_lamp_36 : decode jb_M_lamp 36 = .ok (.getfield 82, 3) := by decide +kernel
theorem jd_M_lamp_39 : decode jb_M_lamp 39 = .ok (.aload_n 0, 1) := by decide +kernel
theorem jd_M_lamp_40 : decode jb_M_lamp 40 = .ok (.getfield 232, 3) := by decide +kernel
theorem jd_M_lamp_43 : decode jb_M_lamp 43 = .ok (.ldc 166, 2) := by decide +kernel
theorem jd_M_lamp_45 : decode jb_M_lamp 45 = .ok (.iastore, 1) := by decide +kernel
theorem jd_M_lamp_46 : decode jb_M_lamp 46 = .ok (.aload_n 0, 1) := by decide +kernel
theorem jd_M_lamp_47 : decode jb_M_lamp 47 = .ok (.dup, 1) := by decide +kernel
theorem jd_M_lamp_48 : decode jb_M_lamp 48 = .ok (.getfield 232, 3) := by decide +kernel
theorem jd_M_lamp_51 : decode jb_M_lamp 51 = .ok (.iconst 1, 1) := by decide +kernel
theorem jd_M_lamp_52 : decode jb_M_lamp 52 = .ok (.iadd, 1) := by decide +kernel
theorem jd_M_lamp_53 : decode jb_M_lamp 53 = .ok (.putfield 232, 3) := by decide +kernel
theorem jd_M_lamp_56 : decode jb_M_lamp 56 = .ok (.aload_n 0, 1) := by decide +kernel
theorem jd_M_lamp_57 : decode jb_M_lamp 57 = .ok (.getfield 232, 3) := by decide +kernel
theorem jd_M_lamp_60 : decode jb_M_lamp 60 = .ok (.iconst 1, 1) := by decide +kernel
theorem jd_M_lamp_61 : decode jb_M_lamp 61 = .ok (.isub, 1) := by decide +kernel
theorem jd_M_lamp_62 : decode jb_M_lamp 62 = .ok (.ireturn, 1) := by decide +kernel
def f_M_lamp (F : Nat) (x1 : Int32) (I : j_M) : Option (Int32 × j_M) := j_bd (f_M_among F x1 1 480 I) (fun v1 I2 => (if v1 = 0 then some ((-1), I2) else (if (I2 215 28) = 40 then some ((-3), I2) else (if j_ok (I2 215 28) 40 = true then j_let (j_wr I2 234 (j_ix (I2 215 28)) x1) (fun I3 => (if j_ok (I3 215 28) 40 = true then j_let (j_wr I3 239 (j_ix (I3 215 28)) 1000000) (fun I4 => j_let (j_wr I4 215 28 ((I4 215 28) + 1)) (fun I5 => some ((I5 215 28) - 1, I5))) else none)) else none))))
set_option maxRecDepth 100000 in
set_option maxHeartbeats 4000000 in
theorem k_M_lamp {l : Launch} {g : j_G} {b n : Nat} {P : j_R} {F : Nat} (hF : j_Fx 0 260 P) (hn : 260 ≤ n) {x1 : Int32} {I : j_M} {r : Int32 × j_M}  (h : f_M_lamp F x1 I = some r) : j_Met l g b n P 1 jy_M_lamp jb_M_lamp 2 (some .int) [.ref (b + 215), .int x1] I r.2 (some (.int r.1)) := by
  unfold f_M_lamp at h
  refine j_enter (plainFor_of_name (by decide)) (Nat.le_of_ble_eq_true rfl) [some (.ref (b + 215)), some (.int x1)] rfl ?_
  intro p e R s m args below meth c X0 hnm hRc hRs
  have X : j_X p R s m args meth c g b 1 jb_M_lamp 2 "PleasureGardenModel" (some .int) := X0
  clear X0
  refine j_iload_n X jd_M_lamp_0 rfl rfl ?_
  refine j_iconst (v := 1) X jd_M_lamp_1 (by decide) ?_
  refine j_sipush (v := 480) X jd_M_lamp_2 (by decide) ?_
  refine j_callSi (As := [.int x1, .int 1, .int 480]) (st := []) X h ⟨jqc_M_among, jqs_M_among, jqn_M⟩ jlm_M_158 jh_M_among.2 rfl (by decide) (by decide) (Nat.le_of_ble_eq_true rfl) ⟨Nat.zero_le _, Nat.zero_le _⟩ (fun v0 I0 h => k_M_among (r := (v0, I0)) hF hn h) jd_M_lamp_5 rfl (fun v1 I2 h => ?_)
  refine j_if_ne (tgt := 13) X jd_M_lamp_8 rfl h (fun h => ?_) (fun h => ?_)
  · refine j_iconst (v := (-1)) X jd_M_lamp_11 (by decide) ?_
    exact j_iret X rfl jd_M_lamp_12 h
  · refine j_aload_n X jd_M_lamp_13 rfl rfl ?_
    refine j_get X jf_M_232 jk_12_28 js_215 (j_lt rfl hn) jd_M_lamp_14 ?_
    refine j_bipush (v := 40) X jd_M_lamp_17 (by decide) ?_
    refine j_icmp_ne (tgt := 25) X jd_M_lamp_19 rfl h (fun h => ?_) (fun h => ?_)
    · refine j_bipush (v := (-3)) X jd_M_lamp_22 (by decide) ?_
      exact j_iret X rfl jd_M_lamp_24 h
    · refine j_aload_n X jd_M_lamp_25 rfl rfl ?_
      refine j_getr X jf_M_67 jk_12_29 js_215 (j_lt rfl hn) (jp_215_29 hF) jd_M_lamp_26 ?_
      refine j_aload_n X jd_M_lamp_29 rfl rfl ?_
      refine j_get X jf_M_232 jk_12_28 js_215 (j_lt rfl hn) jd_M_lamp_30 ?_
      refine j_iload_n X jd_M_lamp_33 rfl rfl ?_
      refine j_iast X js_234 (j_lt rfl hn) jd_M_lamp_34 h (fun h => ?_)
      refine j_mem h (fun I3 h => ?_)
      refine j_aload_n X jd_M_lamp_35 rfl rfl ?_
      refine j_getr X jf_M_82 jk_12_35 js_215 (j_lt rfl hn) (jp_215_35 hF) jd_M_lamp_36 ?_
      refine j_aload_n X jd_M_lamp_39 rfl rfl ?_
      refine j_get X jf_M_232 jk_12_28 js_215 (j_lt rfl hn) jd_M_lamp_40 ?_
      refine j_ldc (v := 1000000) X jlc_M_166 jd_M_lamp_43 ?_
      refine j_iast X js_239 (j_lt rfl hn) jd_M_lamp_45 h (fun h => ?_)
      refine j_mem h (fun I4 h => ?_)
      refine j_aload_n X jd_M_lamp_46 rfl rfl ?_
      refine j_dup X jd_M_lamp_47 rfl ?_
      refine j_get X jf_M_232 jk_12_28 js_215 (j_lt rfl hn) jd_M_lamp_48 ?_
      refine j_iconst (v := 1) X jd_M_lamp_51 (by decide) ?_
      refine j_iadd X jd_M_lamp_52 ?_
      refine j_puti X jt_M jto_M jn_M jf_M_232 jk_12_28 js_215 (j_lt rfl hn) (Or.inl rfl) rfl jd_M_lamp_53 ?_
      refine j_mem h (fun I5 h => ?_)
      refine j_aload_n X jd_M_lamp_56 rfl rfl ?_
      refine j_get X jf_M_232 jk_12_28 js_215 (j_lt rfl hn) jd_M_lamp_57 ?_
      refine j_iconst (v := 1) X jd_M_lamp_60 (by decide) ?_
      refine j_isub X jd_M_lamp_61 ?_
      exact j_iret X rfl jd_M_lamp_62 h
-- PleasureGardenModel.best(I)I
theorem jd_M_best_0 : decode jb_M_best 0 = .ok (.iload_n 1, 1) := by decide +kernel
theorem jd_M_best_1 : decode jb_M_best 1 = .ok (.iconst 1, 1) := by decide +kernel
theorem jd_M_best_2 : decode jb_M_best 2 = .ok (.iconst 2, 1) := by decide +kernel
theorem jd_M_best_3 : decode jb_M_best 3 = .ok (.invokestatic 158, 3) := by decide +kernel
theorem jd_M_best_6 : decode jb_M_best 6 = .ok (.ifCond .ne 5, 3) := by decide +kernel
theorem jd_M_best_9 : decode jb_M_best 9 = .ok (.iconst (-1), 1) := by decide +kernel
theorem jd_M_best_10 : decode jb_M_best 10 = .ok (.ireturn, 1) := by decide +kernel
theorem jd_M_best_11 : decode jb_M_best 11 = .ok (.aload_n 0, 1) := by decide +kernel
theorem jd_M_best_12 : decode jb_M_best 12 = .ok (.getfield 232, 3) := by decide +kernel
theorem jd_M_best_15 : decode jb_M_best 15 = .ok (.iload_n 1, 1) := by decide +kernel
theorem jd_M_best_16 : decode jb_M_best 16 = .ok (.if_icmp .ge 6, 3) := by decide +kernel
theorem jd_M_best_19 : decode jb_M_best 19 = .ok (.bipush (-2), 2) := by decide +kernel
theorem jd_M_best_21 : decode jb_M_best 21 = .ok (.ireturn, 1) := by decide +kernel
theorem jd_M_best_22 : decode jb_M_best 22 = .ok (.iconst (-1), 1) := by decide +kernel
theorem jd_M_best_23 : decode jb_M_best 23 = .ok (.istore_n 2, 1) := by decide +kernel
theorem jd_M_best_24 : decode jb_M_best 24 = .ok (.iconst 0, 1) := by decide +kernel
theorem jd_M_best_25 : decode jb_M_best 25 = .ok (.istore_n 3, 1) := by decide +kernel
theorem jd_M_best_26 : decode jb_M_best 26 = .ok (.iconst 0, 1) := by decide +kernel
theorem jd_M_best_27 : decode jb_M_best 27 = .ok (.istore 4, 2) := by decide +kernel
theorem jd_M_best_29 : decode jb_M_best 29 = .ok (.iconst 0, 1) := by decide +kernel
theorem jd_M_best_30 : decode jb_M_best 30 = .ok (.istore 5, 2) := by decide +kernel
theorem jd_M_best_32 : decode jb_M_best 32 = .ok (.iload 5, 2) := by decide +kernel
theorem jd_M_best_34 : decode jb_M_best 34 = .ok (.aload_n 0, 1) := by decide +kernel
theorem jd_M_best_35 : decode jb_M_best 35 = .ok (.getfield 232, 3) := by decide +kernel
theorem jd_M_best_38 : decode jb_M_best 38 = .ok (.if_icmp .ge 110, 3) := by decide +kernel
theorem jd_M_best_41 : decode jb_M_best 41 = .ok (.iload_n 1, 1) := by decide +kernel
theorem jd_M_best_42 : decode jb_M_best 42 = .ok (.iconst 1, 1) := by decide +kernel
theorem jd_M_best_43 : decode jb_M_best 43 = .ok (.if_icmp .ne 8, 3) := by decide +kernel
theorem jd_M_best_46 : decode jb_M_best 46 = .ok (.bipush 99, 2) := by decide +kernel
theorem jd_M_best_48 : decode jb_M_best 48 = .ok (.goto 7, 3) := by decide +kernel
theorem jd_M_best_51 : decode jb_M_best 51 = .ok (.iload 5, 2) := by decide +kernel
theorem jd_M_best_53 : decode jb_M_best 53 = .ok (.iconst 1, 1) := by decide +kernel
theorem jd_M_best_54 : decode jb_M_best 54 = .ok (.iadd, 1) := by decide +kernel
theorem jd_M_best_55 : decode jb_M_best 55 = .ok (.istore 6, 2) := by decide +kernel
theorem jd_M_best_57 : decode jb_M_best 57 = .ok (.iload 6, 2) := by decide +kernel
theorem jd_M_best_59 : decode jb_M_best 59 = .ok (.iload_n 1, 1) := by decide +kernel
theorem jd_M_best_60 : decode jb_M_best 60 = .ok (.iconst 1, 1) := by decide +kernel
theorem jd_M_best_61 : decode jb_M_best 61 = .ok (.if_icmp .ne 8, 3) := by decide +kernel
theorem jd_M_best_64 : decode jb_M_best 64 = .ok (.bipush 100, 2) := by decide +kernel
theorem jd_M_best_66 : decode jb_M_best 66 = .ok (.goto 7, 3) := by decide +kernel
theorem jd_M_best_69 : decode jb_M_best 69 = .ok (.aload_n 0, 1) := by decide +kernel
theorem jd_M_best_70 : decode jb_M_best 70 = .ok (.getfield 232, 3) := by decide +kernel
theorem jd_M_best_73 : decode jb_M_best 73 = .ok (.if_icmp .ge 69, 3) := by decide +kernel
theorem jd_M_best_76 : decode jb_M_best 76 = .ok (.aload_n 0, 1) := by decide +kernel
theorem jd_M_best_77 : decode jb_M_best 77 = .ok (.iload 5, 2) := by decide +kernel
theorem jd_M_best_79 : decode jb_M_best 79 = .ok (.iload 6, 2) := by decide +kernel
theorem jd_M_best_81 : decode jb_M_best 81 = .ok (.invokevirtual 247, 3) := by decide +kernel
theorem jd_M_best_84 : decode jb_M_best 84 = .ok (.iload_n 2, 1) := by decide +kernel
theorem jd_M_best_85 : decode jb_M_best 85 = .ok (.ifCond .lt 31, 3) := by decide +kernel
theorem jd_M_best_88 : decode jb_M_best 88 = .ok (.aload_n 0, 1) := by decide +kernel
theorem jd_M_best_89 : decode jb_M_best 89 = .ok (.getfield 244, 3) := by decide +kernel
theorem jd_M_best_92 : decode jb_M_best 92 = .ok (.iload_n 3, 1) := by decide +kernel
theorem jd_M_best_93 : decode jb_M_best 93 = .ok (.if_icmp .gt 43, 3) := by decide +kernel
theorem jd_M_best_96 : decode jb_M_best 96 = .ok (.aload_n 0, 1) := by decide +kernel
theorem jd_M_best_97 : decode jb_M_best 97 = .ok (.getfield 244, 3) := by decide +kernel
theorem jd_M_best_100 : decode jb_M_best 100 = .ok (.iload_n 3, 1) := by decide +kernel
theorem jd_M_best_101 : decode jb_M_best 101 = .ok (.if_icmp .ne 15, 3) := by decide +kernel
theorem jd_M_best_104 : decode jb_M_best 104 = .ok (.aload_n 0, 1) := by decide +kernel
theorem jd_M_best_105 : decode jb_M_best 105 = .ok (.getfield 241, 3) := by decide +kernel
theorem jd_M_best_108 : decode jb_M_best 108 = .ok (.iload 4, 2) := by decide +kernel
theorem jd_M_best_110 : decode jb_M_best 110 = .ok (.if_icmp .lt 6, 3) := by decide +kernel
theorem jd_M_best_113 : decode jb_M_best 113 = .ok (.goto 23, 3) := by decide +kernel
theorem jd_M_best_116 : decode jb_M_best 116 = .ok (.bipush 100, 2) := by decide +kernel
theorem jd_M_best_118 : decode jb_M_best 118 = .ok (.iload 5, 2) := by decide +kernel
theorem jd_M_best_120 : decode jb_M_best 120 = .ok (.imul, 1) := by decide +kernel
theorem jd_M_best_121 : decode jb_M_best 121 = .ok (.iload 6, 2) := by decide +kernel
theorem jd_M_best_123 : decode jb_M_best 123 = .ok (.iadd, 1) := by decide +kernel
theorem jd_M_best_124 : decode jb_M_best 124 = .ok (.istore_n 2, 1) := by decide +kernel
theorem jd_M_best_125 : decode jb_M_best 125 = .ok (.aload_n 0, 1) := by decide +kernel
theorem jd_M_best_126 : decode jb_M_best 126 = .ok (.getfield 244, 3) := by decide +kernel
theorem jd_M_best_129 : decode jb_M_best 129 = .ok (.istore_n 3, 1) := by decide +kernel
theorem jd_M_best_130 : decode jb_M_best 130 = .ok (.aload_n 0, 1) := by decide +kernel
theorem jd_M_best_131 : decode jb_M_best 131 = .ok (.getfield 241, 3) := by decide +kernel
theorem jd_M_best_134 : decode jb_M_best 134 = .ok (.istore 4, 2) := by decide +kernel
theorem jd_M_best_136 : decode jb_M_best 136 = .ok (.iinc 6 1, 3) := by decide +kernel
theorem jd_M_best_139 : decode jb_M_best 139 = .ok (.goto (-82), 3) := by decide +kernel
theorem jd_M_best_142 : decode jb_M_best 142 = .ok (.iinc 5 1, 3) := by decide +kernel
theorem jd_M_best_145 : decode jb_M_best 145 = .ok (.goto (-113), 3) := by decide +kernel
theorem jd_M_best_148 : decode jb_M_best 148 = .ok (.iload_n 2, 1) := by decide +kernel
theorem jd_M_best_149 : decode jb_M_best 149 = .ok (.ireturn, 1) := by decide +kernel
def f_M_best_136 (F : Nat) (kb57 : Int32 → Int32 → Int32 → Int32 → Int32 → Int32 → j_M → Option (Int32 × j_M)) (x1 : Int32) (x2 : Int32) (x3 : Int32) (x4 : Int32) (x5 : Int32) (x6 : Int32) (I : j_M) : Option (Int32 × j_M) := j_let (x6 + 1) (fun v1 => kb57 x1 x2 x3 x4 x5 v1 I)
def f_M_best_116 (F : Nat) (kb57 : Int32 → Int32 → Int32 → Int32 → Int32 → Int32 → j_M → Option (Int32 × j_M)) (x1 : Int32) (x5 : Int32) (x6 : Int32) (I : j_M) : Option (Int32 × j_M) := j_let ((100 * x5) + x6) (fun v2 => j_let (I 215 39) (fun v3 => j_let (I 215 38) (fun v4 => f_M_best_136 F kb57 x1 v2 v3 v4 x5 x6 I)))
def f_M_best_73 (F : Nat) (kb32 : Int32 → Int32 → Int32 → Int32 → Int32 → j_M → Option (Int32 × j_M)) (kb57 : Int32 → Int32 → Int32 → Int32 → Int32 → Int32 → j_M → Option (Int32 × j_M)) (x1 : Int32) (x2 : Int32) (x3 : Int32) (x4 : Int32) (x5 : Int32) (x6 : Int32) (s0 : Int32) (s1 : Int32) (I : j_M) : Option (Int32 × j_M) := (if s1 ≤ s0 then j_let (x5 + 1) (fun v5 => kb32 x1 x2 x3 x4 v5 I) else j_bd (f_M_find F x5 x6 I) (fun v6 I7 => (if x2 < 0 then f_M_best_116 F kb57 x1 x5 x6 I7 else (if x3 < (I7 215 39) then f_M_best_136 F kb57 x1 x2 x3 x4 x5 x6 I7 else (if (I7 215 39) = x3 then (if (I7 215 38) < x4 then f_M_best_116 F kb57 x1 x5 x6 I7 else f_M_best_136 F kb57 x1 x2 x3 x4 x5 x6 I7) else f_M_best_116 F kb57 x1 x5 x6 I7)))))
def f_M_best_57b (F : Nat) (kb57 : Int32 → Int32 → Int32 → Int32 → Int32 → Int32 → j_M → Option (Int32 × j_M)) (kb32 : Int32 → Int32 → Int32 → Int32 → Int32 → j_M → Option (Int32 × j_M)) (x1 : Int32) (x2 : Int32) (x3 : Int32) (x4 : Int32) (x5 : Int32) (x6 : Int32) (I : j_M) : Option (Int32 × j_M) := (if x1 = 1 then f_M_best_73 F kb32 kb57 x1 x2 x3 x4 x5 x6 x6 100 I else f_M_best_73 F kb32 kb57 x1 x2 x3 x4 x5 x6 x6 (I 215 28) I)
def f_M_best_57 (F : Nat) (kb32 : Int32 → Int32 → Int32 → Int32 → Int32 → j_M → Option (Int32 × j_M)) (x1 : Int32) (x2 : Int32) (x3 : Int32) (x4 : Int32) (x5 : Int32) (x6 : Int32) (I : j_M) : Option (Int32 × j_M) := j_it (fun (again : Int32 × Int32 × Int32 × Int32 × Int32 × Int32 × j_M → Option (Int32 × j_M)) (q : Int32 × Int32 × Int32 × Int32 × Int32 × Int32 × j_M) => f_M_best_57b F  (fun x1 x2 x3 x4 x5 x6 I => again (x1, x2, x3, x4, x5, x6, I)) kb32 q.1 q.2.1 q.2.2.1 q.2.2.2.1 q.2.2.2.2.1 q.2.2.2.2.2.1 q.2.2.2.2.2.2) F (x1, x2, x3, x4, x5, x6, I)
def f_M_best_55 (F : Nat) (kb32 : Int32 → Int32 → Int32 → Int32 → Int32 → j_M → Option (Int32 × j_M)) (x1 : Int32) (x2 : Int32) (x3 : Int32) (x4 : Int32) (x5 : Int32) (s0 : Int32) (I : j_M) : Option (Int32 × j_M) := f_M_best_57 F kb32 x1 x2 x3 x4 x5 s0 I
def f_M_best_32b (F : Nat) (kb32 : Int32 → Int32 → Int32 → Int32 → Int32 → j_M → Option (Int32 × j_M)) (x1 : Int32) (x2 : Int32) (x3 : Int32) (x4 : Int32) (x5 : Int32) (I : j_M) : Option (Int32 × j_M) := (if (I 215 28) ≤ x5 then some (x2, I) else (if x1 = 1 then f_M_best_55 F kb32 x1 x2 x3 x4 x5 99 I else f_M_best_55 F kb32 x1 x2 x3 x4 x5 (x5 + 1) I))
def f_M_best_32 (F : Nat)  (x1 : Int32) (x2 : Int32) (x3 : Int32) (x4 : Int32) (x5 : Int32) (I : j_M) : Option (Int32 × j_M) := j_it (fun (again : Int32 × Int32 × Int32 × Int32 × Int32 × j_M → Option (Int32 × j_M)) (q : Int32 × Int32 × Int32 × Int32 × Int32 × j_M) => f_M_best_32b F  (fun x1 x2 x3 x4 x5 I => again (x1, x2, x3, x4, x5, I))  q.1 q.2.1 q.2.2.1 q.2.2.2.1 q.2.2.2.2.1 q.2.2.2.2.2) F (x1, x2, x3, x4, x5, I)
def f_M_best (F : Nat) (x1 : Int32) (I : j_M) : Option (Int32 × j_M) := j_bd (f_M_among F x1 1 2 I) (fun v8 I9 => (if v8 = 0 then some ((-1), I9) else (if x1 ≤ (I9 215 28) then f_M_best_32 F x1 (-1) 0 0 0 I9 else some ((-2), I9))))
set_option maxRecDepth 100000 in
set_option maxHeartbeats 4000000 in
theorem k_M_best_136 {p : Program} {l : Launch} {e : Env} {R : Room} {s : State} {m : MethodId} {args : Array Value} {below : List Frame} {meth : Method} {c : Code} {g : j_G} {b n : Nat} {P : j_R} {F : Nat} (hF : j_Fx 0 260 P) (hn : 260 ≤ n) (X : j_X p R s m args meth c g b 1 jb_M_best 7 "PleasureGardenModel" (some .int)) {kb57 : Int32 → Int32 → Int32 → Int32 → Int32 → Int32 → j_M → Option (Int32 × j_M)} (hkb57 : ∀ (x1 : Int32) (x2 : Int32) (x3 : Int32) (x4 : Int32) (x5 : Int32) (x6 : Int32) (I : j_M) (r : Int32 × j_M), kb57 x1 x2 x3 x4 x5 x6 I = some r → j_W p l e R s m args below meth c 7 g b n 0 0 (j_Qi g b n P below args s r) I P 57 [some (.ref (b + 215)), some (.int x1), some (.int x2), some (.int x3), some (.int x4), some (.int x5), some (.int x6)] []) {x1 : Int32} {x2 : Int32} {x3 : Int32} {x4 : Int32} {x5 : Int32} {x6 : Int32} {I : j_M} {r : Int32 × j_M}  (h : f_M_best_136 F kb57 x1 x2 x3 x4 x5 x6 I = some r) : j_W p l e R s m args below meth c 7 g b n 0 0 (j_Qi g b n P below args s r) I P 136 [some (.ref (b + 215)), some (.int x1), some (.int x2), some (.int x3), some (.int x4), some (.int x5), some (.int x6)] [] := by
  unfold f_M_best_136 at h
  obtain ⟨v1, ev1, h⟩ := j_ex h
  refine j_iinc (v := v1) (lv' := [some (.ref (b + 215)), some (.int x1), some (.int x2), some (.int x3), some (.int x4), some (.int x5), some (.int v1)]) X jd_M_best_136 rfl (by rw [ev1]; rfl) (by decide) rfl ?_
  refine j_goto (tgt := 57) X jd_M_best_139 rfl ?_
  exact hkb57 _ _ _ _ _ _ _ _ h
set_option maxRecDepth 100000 in
set_option maxHeartbeats 4000000 in
theorem k_M_best_116 {p : Program} {l : Launch} {e : Env} {R : Room} {s : State} {m : MethodId} {args : Array Value} {below : List Frame} {meth : Method} {c : Code} {g : j_G} {b n : Nat} {P : j_R} {F : Nat} (hF : j_Fx 0 260 P) (hn : 260 ≤ n) (X : j_X p R s m args meth c g b 1 jb_M_best 7 "PleasureGardenModel" (some .int)) {kb57 : Int32 → Int32 → Int32 → Int32 → Int32 → Int32 → j_M → Option (Int32 × j_M)} (hkb57 : ∀ (x1 : Int32) (x2 : Int32) (x3 : Int32) (x4 : Int32) (x5 : Int32) (x6 : Int32) (I : j_M) (r : Int32 × j_M), kb57 x1 x2 x3 x4 x5 x6 I = some r → j_W p l e R s m args below meth c 7 g b n 0 0 (j_Qi g b n P below args s r) I P 57 [some (.ref (b + 215)), some (.int x1), some (.int x2), some (.int x3), some (.int x4), some (.int x5), some (.int x6)] []) {x1 : Int32} {x5 : Int32} {x6 : Int32} {I : j_M} {r : Int32 × j_M}  (h : f_M_best_116 F kb57 x1 x5 x6 I = some r) : j_W p l e R s m args below meth c 7 g b n 0 0 (j_Qi g b n P below args s r) I P 116 [some (.ref (b + 215)), some (.int x1), none, none, none, some (.int x5), some (.int x6)] [] := by
  unfold f_M_best_116 at h
  refine j_bipush (v := 100) X jd_M_best_116 (by decide) ?_
  refine j_iload X jd_M_best_118 rfl ?_
  refine j_imul X jd_M_best_120 ?_
  refine j_iload X jd_M_best_121 rfl ?_
  refine j_iadd X jd_M_best_123 ?_
  refine j_nm h (fun v2 h => ?_)
  refine j_istore_n (lv' := [some (.ref (b + 215)), some (.int x1), some (.int v2), none, none, some (.int x5), some (.int x6)]) X jd_M_best_124 rfl (by decide) rfl ?_
  refine j_aload_n X jd_M_best_125 rfl rfl ?_
  refine j_get X jf_M_244 jk_12_39 js_215 (j_lt rfl hn) jd_M_best_126 ?_
  refine j_nm h (fun v3 h => ?_)
  refine j_istore_n (lv' := [some (.ref (b + 215)), some (.int x1), some (.int v2), some (.int v3), none, some (.int x5), some (.int x6)]) X jd_M_best_129 rfl (by decide) rfl ?_
  refine j_aload_n X jd_M_best_130 rfl rfl ?_
  refine j_get X jf_M_241 jk_12_38 js_215 (j_lt rfl hn) jd_M_best_131 ?_
  refine j_nm h (fun v4 h => ?_)
  refine j_istore (lv' := [some (.ref (b + 215)), some (.int x1), some (.int v2), some (.int v3), some (.int v4), some (.int x5), some (.int x6)]) X jd_M_best_134 (by decide) rfl ?_
  exact k_M_best_136 hF hn X hkb57 h
set_option maxRecDepth 100000 in
set_option maxHeartbeats 4000000 in
theorem k_M_best_73 {p : Program} {l : Launch} {e : Env} {R : Room} {s : State} {m : MethodId} {args : Array Value} {below : List Frame} {meth : Method} {c : Code} {g : j_G} {b n : Nat} {P : j_R} {F : Nat} (hF : j_Fx 0 260 P) (hn : 260 ≤ n) (X : j_X p R s m args meth c g b 1 jb_M_best 7 "PleasureGardenModel" (some .int)) {kb32 : Int32 → Int32 → Int32 → Int32 → Int32 → j_M → Option (Int32 × j_M)} (hkb32 : ∀ (x1 : Int32) (x2 : Int32) (x3 : Int32) (x4 : Int32) (x5 : Int32) (I : j_M) (r : Int32 × j_M), kb32 x1 x2 x3 x4 x5 I = some r → j_W p l e R s m args below meth c 7 g b n 0 0 (j_Qi g b n P below args s r) I P 32 [some (.ref (b + 215)), some (.int x1), some (.int x2), some (.int x3), some (.int x4), some (.int x5), none] []) {kb57 : Int32 → Int32 → Int32 → Int32 → Int32 → Int32 → j_M → Option (Int32 × j_M)} (hkb57 : ∀ (x1 : Int32) (x2 : Int32) (x3 : Int32) (x4 : Int32) (x5 : Int32) (x6 : Int32) (I : j_M) (r : Int32 × j_M), kb57 x1 x2 x3 x4 x5 x6 I = some r → j_W p l e R s m args below meth c 7 g b n 0 0 (j_Qi g b n P below args s r) I P 57 [some (.ref (b + 215)), some (.int x1), some (.int x2), some (.int x3), some (.int x4), some (.int x5), some (.int x6)] []) {x1 : Int32} {x2 : Int32} {x3 : Int32} {x4 : Int32} {x5 : Int32} {x6 : Int32} {s0 : Int32} {s1 : Int32} {I : j_M} {r : Int32 × j_M}  (h : f_M_best_73 F kb32 kb57 x1 x2 x3 x4 x5 x6 s0 s1 I = some r) : j_W p l e R s m args below meth c 7 g b n 0 0 (j_Qi g b n P below args s r) I P 73 [some (.ref (b + 215)), some (.int x1), some (.int x2), some (.int x3), some (.int x4), some (.int x5), some (.int x6)] [.int s1, .int s0] := by
  unfold f_M_best_73 at h
  refine j_icmp_ge (tgt := 142) X jd_M_best_73 rfl h (fun h => ?_) (fun h => ?_)
  · obtain ⟨v5, ev5, h⟩ := j_ex h
    refine j_iinc (v := v5) (lv' := [some (.ref (b + 215)), some (.int x1), some (.int x2), some (.int x3), some (.int x4), some (.int v5), some (.int x6)]) X jd_M_best_142 rfl (by rw [ev5]; rfl) (by decide) rfl ?_
    refine j_goto (tgt := 32) X jd_M_best_145 rfl ?_
    refine j_sub [true, true, true, true, true, true, false] (lv' := [some (.ref (b + 215)), some (.int x1), some (.int x2), some (.int x3), some (.int x4), some (.int v5), none]) rfl ?_
    exact hkb32 _ _ _ _ _ _ _ h
  · refine j_aload_n X jd_M_best_76 rfl rfl ?_
    refine j_iload X jd_M_best_77 rfl ?_
    refine j_iload X jd_M_best_79 rfl ?_
    refine j_callVv (As := [.int x5, .int x6]) (st := []) (c0 := 215) X h jc_M js_215 (j_lt rfl hn) ⟨jqc_M_find, jqi_M_find, jqv_M_find, jqn_M⟩ jlm_M_247 jh_M_find rfl (by decide) (by decide) (Nat.le_of_ble_eq_true rfl) ⟨Nat.zero_le _, Nat.zero_le _⟩ (fun v0 I0 h => k_M_find (r := (v0, I0)) hF hn h) jd_M_best_81 rfl (fun v6 I7 h => ?_)
    refine j_iload_n X jd_M_best_84 rfl rfl ?_
    refine j_if_lt (tgt := 116) X jd_M_best_85 rfl h (fun h => ?_) (fun h => ?_)
    · refine j_sub [true, true, false, false, false, true, true] (lv' := [some (.ref (b + 215)), some (.int x1), none, none, none, some (.int x5), some (.int x6)]) rfl ?_
      exact k_M_best_116 hF hn X hkb57 h
    · refine j_aload_n X jd_M_best_88 rfl rfl ?_
      refine j_get X jf_M_244 jk_12_39 js_215 (j_lt rfl hn) jd_M_best_89 ?_
      refine j_iload_n X jd_M_best_92 rfl rfl ?_
      refine j_icmp_gt (tgt := 136) X jd_M_best_93 rfl h (fun h => ?_) (fun h => ?_)
      · exact k_M_best_136 hF hn X hkb57 h
      · refine j_aload_n X jd_M_best_96 rfl rfl ?_
        refine j_get X jf_M_244 jk_12_39 js_215 (j_lt rfl hn) jd_M_best_97 ?_
        refine j_iload_n X jd_M_best_100 rfl rfl ?_
        refine j_icmp_ne (tgt := 116) X jd_M_best_101 rfl h (fun h => ?_) (fun h => ?_)
        · refine j_aload_n X jd_M_best_104 rfl rfl ?_
          refine j_get X jf_M_241 jk_12_38 js_215 (j_lt rfl hn) jd_M_best_105 ?_
          refine j_iload X jd_M_best_108 rfl ?_
          refine j_icmp_lt (tgt := 116) X jd_M_best_110 rfl h (fun h => ?_) (fun h => ?_)
          · refine j_sub [true, true, false, false, false, true, true] (lv' := [some (.ref (b + 215)), some (.int x1), none, none, none, some (.int x5), some (.int x6)]) rfl ?_
            exact k_M_best_116 hF hn X hkb57 h
          · refine j_goto (tgt := 136) X jd_M_best_113 rfl ?_
            exact k_M_best_136 hF hn X hkb57 h
        · refine j_sub [true, true, false, false, false, true, true] (lv' := [some (.ref (b + 215)), some (.int x1), none, none, none, some (.int x5), some (.int x6)]) rfl ?_
          exact k_M_best_116 hF hn X hkb57 h
set_option maxRecDepth 100000 in
set_option maxHeartbeats 4000000 in
theorem k_M_best_57b {p : Program} {l : Launch} {e : Env} {R : Room} {s : State} {m : MethodId} {args : Array Value} {below : List Frame} {meth : Method} {c : Code} {g : j_G} {b n : Nat} {P : j_R} {F : Nat} (hF : j_Fx 0 260 P) (hn : 260 ≤ n) (X : j_X p R s m args meth c g b 1 jb_M_best 7 "PleasureGardenModel" (some .int)) {kb57 : Int32 → Int32 → Int32 → Int32 → Int32 → Int32 → j_M → Option (Int32 × j_M)} (hkb57 : ∀ (x1 : Int32) (x2 : Int32) (x3 : Int32) (x4 : Int32) (x5 : Int32) (x6 : Int32) (I : j_M) (r : Int32 × j_M), kb57 x1 x2 x3 x4 x5 x6 I = some r → j_W p l e R s m args below meth c 7 g b n 0 0 (j_Qi g b n P below args s r) I P 57 [some (.ref (b + 215)), some (.int x1), some (.int x2), some (.int x3), some (.int x4), some (.int x5), some (.int x6)] []) {kb32 : Int32 → Int32 → Int32 → Int32 → Int32 → j_M → Option (Int32 × j_M)} (hkb32 : ∀ (x1 : Int32) (x2 : Int32) (x3 : Int32) (x4 : Int32) (x5 : Int32) (I : j_M) (r : Int32 × j_M), kb32 x1 x2 x3 x4 x5 I = some r → j_W p l e R s m args below meth c 7 g b n 0 0 (j_Qi g b n P below args s r) I P 32 [some (.ref (b + 215)), some (.int x1), some (.int x2), some (.int x3), some (.int x4), some (.int x5), none] []) {x1 : Int32} {x2 : Int32} {x3 : Int32} {x4 : Int32} {x5 : Int32} {x6 : Int32} {I : j_M} {r : Int32 × j_M}  (h : f_M_best_57b F kb57 kb32 x1 x2 x3 x4 x5 x6 I = some r) : j_W p l e R s m args below meth c 7 g b n 0 0 (j_Qi g b n P below args s r) I P 57 [some (.ref (b + 215)), some (.int x1), some (.int x2), some (.int x3), some (.int x4), some (.int x5), some (.int x6)] [] := by
  unfold f_M_best_57b at h
  refine j_iload X jd_M_best_57 rfl ?_
  refine j_iload_n X jd_M_best_59 rfl rfl ?_
  refine j_iconst (v := 1) X jd_M_best_60 (by decide) ?_
  refine j_icmp_ne (tgt := 69) X jd_M_best_61 rfl h (fun h => ?_) (fun h => ?_)
  · refine j_bipush (v := 100) X jd_M_best_64 (by decide) ?_
    refine j_goto (tgt := 73) X jd_M_best_66 rfl ?_
    exact k_M_best_73 hF hn X hkb32 hkb57 h
  · refine j_aload_n X jd_M_best_69 rfl rfl ?_
    refine j_get X jf_M_232 jk_12_28 js_215 (j_lt rfl hn) jd_M_best_70 ?_
    exact k_M_best_73 hF hn X hkb32 hkb57 h
set_option maxRecDepth 100000 in
set_option maxHeartbeats 4000000 in
theorem k_M_best_57 {p : Program} {l : Launch} {e : Env} {R : Room} {s : State} {m : MethodId} {args : Array Value} {below : List Frame} {meth : Method} {c : Code} {g : j_G} {b n : Nat} {P : j_R} {F : Nat} (hF : j_Fx 0 260 P) (hn : 260 ≤ n) (X : j_X p R s m args meth c g b 1 jb_M_best 7 "PleasureGardenModel" (some .int)) {kb32 : Int32 → Int32 → Int32 → Int32 → Int32 → j_M → Option (Int32 × j_M)} (hkb32 : ∀ (x1 : Int32) (x2 : Int32) (x3 : Int32) (x4 : Int32) (x5 : Int32) (I : j_M) (r : Int32 × j_M), kb32 x1 x2 x3 x4 x5 I = some r → j_W p l e R s m args below meth c 7 g b n 0 0 (j_Qi g b n P below args s r) I P 32 [some (.ref (b + 215)), some (.int x1), some (.int x2), some (.int x3), some (.int x4), some (.int x5), none] []) {x1 : Int32} {x2 : Int32} {x3 : Int32} {x4 : Int32} {x5 : Int32} {x6 : Int32} {I : j_M} {r : Int32 × j_M} (h : f_M_best_57 F kb32 x1 x2 x3 x4 x5 x6 I = some r) : j_W p l e R s m args below meth c 7 g b n 0 0 (j_Qi g b n P below args s r) I P 57 [some (.ref (b + 215)), some (.int x1), some (.int x2), some (.int x3), some (.int x4), some (.int x5), some (.int x6)] [] := by
  refine j_loop (G := fun (q : Int32 × Int32 × Int32 × Int32 × Int32 × Int32 × j_M) (r : Int32 × j_M) => j_W p l e R s m args below meth c 7 g b n 0 0 (j_Qi g b n P below args s r) q.2.2.2.2.2.2 P 57 [some (.ref (b + 215)), some (.int (q.1)), some (.int (q.2.1)), some (.int (q.2.2.1)), some (.int (q.2.2.2.1)), some (.int (q.2.2.2.2.1)), some (.int (q.2.2.2.2.2.1))] []) ?_ F (x1, x2, x3, x4, x5, x6, I) r h
  intro again hrec0 q r h
  exact k_M_best_57b hF hn X (fun x1 x2 x3 x4 x5 x6 I r h => hrec0 (x1, x2, x3, x4, x5, x6, I) r h) hkb32 h
set_option maxRecDepth 100000 in
set_option maxHeartbeats 4000000 in
theorem k_M_best_55 {p : Program} {l : Launch} {e : Env} {R : Room} {s : State} {m : MethodId} {args : Array Value} {below : List Frame} {meth : Method} {c : Code} {g : j_G} {b n : Nat} {P : j_R} {F : Nat} (hF : j_Fx 0 260 P) (hn : 260 ≤ n) (X : j_X p R s m args meth c g b 1 jb_M_best 7 "PleasureGardenModel" (some .int)) {kb32 : Int32 → Int32 → Int32 → Int32 → Int32 → j_M → Option (Int32 × j_M)} (hkb32 : ∀ (x1 : Int32) (x2 : Int32) (x3 : Int32) (x4 : Int32) (x5 : Int32) (I : j_M) (r : Int32 × j_M), kb32 x1 x2 x3 x4 x5 I = some r → j_W p l e R s m args below meth c 7 g b n 0 0 (j_Qi g b n P below args s r) I P 32 [some (.ref (b + 215)), some (.int x1), some (.int x2), some (.int x3), some (.int x4), some (.int x5), none] []) {x1 : Int32} {x2 : Int32} {x3 : Int32} {x4 : Int32} {x5 : Int32} {s0 : Int32} {I : j_M} {r : Int32 × j_M}  (h : f_M_best_55 F kb32 x1 x2 x3 x4 x5 s0 I = some r) : j_W p l e R s m args below meth c 7 g b n 0 0 (j_Qi g b n P below args s r) I P 55 [some (.ref (b + 215)), some (.int x1), some (.int x2), some (.int x3), some (.int x4), some (.int x5), none] [.int s0] := by
  unfold f_M_best_55 at h
  refine j_istore (lv' := [some (.ref (b + 215)), some (.int x1), some (.int x2), some (.int x3), some (.int x4), some (.int x5), some (.int s0)]) X jd_M_best_55 (by decide) rfl ?_
  exact k_M_best_57 hF hn X hkb32 h
set_option maxRecDepth 100000 in
set_option maxHeartbeats 4000000 in
theorem k_M_best_32b {p : Program} {l : Launch} {e : Env} {R : Room} {s : State} {m : MethodId} {args : Array Value} {below : List Frame} {meth : Method} {c : Code} {g : j_G} {b n : Nat} {P : j_R} {F : Nat} (hF : j_Fx 0 260 P) (hn : 260 ≤ n) (X : j_X p R s m args meth c g b 1 jb_M_best 7 "PleasureGardenModel" (some .int)) {kb32 : Int32 → Int32 → Int32 → Int32 → Int32 → j_M → Option (Int32 × j_M)} (hkb32 : ∀ (x1 : Int32) (x2 : Int32) (x3 : Int32) (x4 : Int32) (x5 : Int32) (I : j_M) (r : Int32 × j_M), kb32 x1 x2 x3 x4 x5 I = some r → j_W p l e R s m args below meth c 7 g b n 0 0 (j_Qi g b n P below args s r) I P 32 [some (.ref (b + 215)), some (.int x1), some (.int x2), some (.int x3), some (.int x4), some (.int x5), none] []) {x1 : Int32} {x2 : Int32} {x3 : Int32} {x4 : Int32} {x5 : Int32} {I : j_M} {r : Int32 × j_M}  (h : f_M_best_32b F kb32 x1 x2 x3 x4 x5 I = some r) : j_W p l e R s m args below meth c 7 g b n 0 0 (j_Qi g b n P below args s r) I P 32 [some (.ref (b + 215)), some (.int x1), some (.int x2), some (.int x3), some (.int x4), some (.int x5), none] [] := by
  unfold f_M_best_32b at h
  refine j_iload X jd_M_best_32 rfl ?_
  refine j_aload_n X jd_M_best_34 rfl rfl ?_
  refine j_get X jf_M_232 jk_12_28 js_215 (j_lt rfl hn) jd_M_best_35 ?_
  refine j_icmp_ge (tgt := 148) X jd_M_best_38 rfl h (fun h => ?_) (fun h => ?_)
  · refine j_iload_n X jd_M_best_148 rfl rfl ?_
    exact j_iret X rfl jd_M_best_149 h
  · refine j_iload_n X jd_M_best_41 rfl rfl ?_
    refine j_iconst (v := 1) X jd_M_best_42 (by decide) ?_
    refine j_icmp_ne (tgt := 51) X jd_M_best_43 rfl h (fun h => ?_) (fun h => ?_)
    · refine j_bipush (v := 99) X jd_M_best_46 (by decide) ?_
      refine j_goto (tgt := 55) X jd_M_best_48 rfl ?_
      exact k_M_best_55 hF hn X hkb32 h
    · refine j_iload X jd_M_best_51 rfl ?_
      refine j_iconst (v := 1) X jd_M_best_53 (by decide) ?_
      refine j_iadd X jd_M_best_54 ?_
      exact k_M_best_55 hF hn X hkb32 h
set_option maxRecDepth 100000 in
set_option maxHeartbeats 4000000 in
theorem k_M_best_32 {p : Program} {l : Launch} {e : Env} {R : Room} {s : State} {m : MethodId} {args : Array Value} {below : List Frame} {meth : Method} {c : Code} {g : j_G} {b n : Nat} {P : j_R} {F : Nat} (hF : j_Fx 0 260 P) (hn : 260 ≤ n) (X : j_X p R s m args meth c g b 1 jb_M_best 7 "PleasureGardenModel" (some .int))  {x1 : Int32} {x2 : Int32} {x3 : Int32} {x4 : Int32} {x5 : Int32} {I : j_M} {r : Int32 × j_M} (h : f_M_best_32 F x1 x2 x3 x4 x5 I = some r) : j_W p l e R s m args below meth c 7 g b n 0 0 (j_Qi g b n P below args s r) I P 32 [some (.ref (b + 215)), some (.int x1), some (.int x2), some (.int x3), some (.int x4), some (.int x5), none] [] := by
  refine j_loop (G := fun (q : Int32 × Int32 × Int32 × Int32 × Int32 × j_M) (r : Int32 × j_M) => j_W p l e R s m args below meth c 7 g b n 0 0 (j_Qi g b n P below args s r) q.2.2.2.2.2 P 32 [some (.ref (b + 215)), some (.int (q.1)), some (.int (q.2.1)), some (.int (q.2.2.1)), some (.int (q.2.2.2.1)), some (.int (q.2.2.2.2.1)), none] []) ?_ F (x1, x2, x3, x4, x5, I) r h
  intro again hrec0 q r h
  exact k_M_best_32b hF hn X (fun x1 x2 x3 x4 x5 I r h => hrec0 (x1, x2, x3, x4, x5, I) r h)  h
set_option maxRecDepth 100000 in
set_option maxHeartbeats 4000000 in
theorem k_M_best {l : Launch} {g : j_G} {b n : Nat} {P : j_R} {F : Nat} (hF : j_Fx 0 260 P) (hn : 260 ≤ n) {x1 : Int32} {I : j_M} {r : Int32 × j_M}  (h : f_M_best F x1 I = some r) : j_Met l g b n P 1 jy_M_best jb_M_best 7 (some .int) [.ref (b + 215), .int x1] I r.2 (some (.int r.1)) := by
  unfold f_M_best at h
  refine j_enter (plainFor_of_name (by decide)) (Nat.le_of_ble_eq_true rfl) [some (.ref (b + 215)), some (.int x1), none, none, none, none, none] rfl ?_
  intro p e R s m args below meth c X0 hnm hRc hRs
  have X : j_X p R s m args meth c g b 1 jb_M_best 7 "PleasureGardenModel" (some .int) := X0
  clear X0
  refine j_iload_n X jd_M_best_0 rfl rfl ?_
  refine j_iconst (v := 1) X jd_M_best_1 (by decide) ?_
  refine j_iconst (v := 2) X jd_M_best_2 (by decide) ?_
  refine j_callSi (As := [.int x1, .int 1, .int 2]) (st := []) X h ⟨jqc_M_among, jqs_M_among, jqn_M⟩ jlm_M_158 jh_M_among.2 rfl (by decide) (by decide) (Nat.le_of_ble_eq_true rfl) ⟨Nat.zero_le _, Nat.zero_le _⟩ (fun v0 I0 h => k_M_among (r := (v0, I0)) hF hn h) jd_M_best_3 rfl (fun v8 I9 h => ?_)
  refine j_if_ne (tgt := 11) X jd_M_best_6 rfl h (fun h => ?_) (fun h => ?_)
  · refine j_iconst (v := (-1)) X jd_M_best_9 (by decide) ?_
    exact j_iret X rfl jd_M_best_10 h
  · refine j_aload_n X jd_M_best_11 rfl rfl ?_
    refine j_get X jf_M_232 jk_12_28 js_215 (j_lt rfl hn) jd_M_best_12 ?_
    refine j_iload_n X jd_M_best_15 rfl rfl ?_
    refine j_icmp_ge (tgt := 22) X jd_M_best_16 rfl h (fun h => ?_) (fun h => ?_)
    · refine j_iconst (v := (-1)) X jd_M_best_22 (by decide) ?_
      refine j_istore_n (lv' := [some (.ref (b + 215)), some (.int x1), some (.int (-1)), none, none, none, none]) X jd_M_best_23 rfl (by decide) rfl ?_
      refine j_iconst (v := 0) X jd_M_best_24 (by decide) ?_
      refine j_istore_n (lv' := [some (.ref (b + 215)), some (.int x1), some (.int (-1)), some (.int 0), none, none, none]) X jd_M_best_25 rfl (by decide) rfl ?_
      refine j_iconst (v := 0) X jd_M_best_26 (by decide) ?_
      refine j_istore (lv' := [some (.ref (b + 215)), some (.int x1), some (.int (-1)), some (.int 0), some (.int 0), none, none]) X jd_M_best_27 (by decide) rfl ?_
      refine j_iconst (v := 0) X jd_M_best_29 (by decide) ?_
      refine j_istore (lv' := [some (.ref (b + 215)), some (.int x1), some (.int (-1)), some (.int 0), some (.int 0), some (.int 0), none]) X jd_M_best_30 (by decide) rfl ?_
      exact k_M_best_32 hF hn X h
    · refine j_bipush (v := (-2)) X jd_M_best_19 (by decide) ?_
      exact j_iret X rfl jd_M_best_21 h
-- PleasureGardenModel.isBox(I)Z
theorem jd_M_isBox_0 : decode jb_M_isBox 0 = .ok (.iload_n 1, 1) := by decide +kernel
theorem jd_M_isBox_1 : decode jb_M_isBox 1 = .ok (.iconst 0, 1) := by decide +kernel
theorem jd_M_isBox_2 : decode jb_M_isBox 2 = .ok (.aload_n 0, 1) := by decide +kernel
theorem jd_M_isBox_3 : decode jb_M_isBox 3 = .ok (.getfield 257, 3) := by decide +kernel
theorem jd_M_isBox_6 : decode jb_M_isBox 6 = .ok (.iconst 1, 1) := by decide +kernel
theorem jd_M_isBox_7 : decode jb_M_isBox 7 = .ok (.isub, 1) := by decide +kernel
theorem jd_M_isBox_8 : decode jb_M_isBox 8 = .ok (.invokestatic 158, 3) := by decide +kernel
theorem jd_M_isBox_11 : decode jb_M_isBox 11 = .ok (.ireturn, 1) := by decide +kernel
def f_M_isBox (F : Nat) (x1 : Int32) (I : j_M) : Option (Int32 × j_M) := j_bd (f_M_among F x1 0 ((I 215 40) - 1) I) (fun v1 I2 => (if v1 &&& 1 = v1 then some (v1, I2) else none))
set_option maxRecDepth 100000 in
set_option maxHeartbeats 4000000 in
theorem k_M_isBox {l : Launch} {g : j_G} {b n : Nat} {P : j_R} {F : Nat} (hF : j_Fx 0 260 P) (hn : 260 ≤ n) {x1 : Int32} {I : j_M} {r : Int32 × j_M}  (h : f_M_isBox F x1 I = some r) : j_Met l g b n P 1 jy_M_isBox jb_M_isBox 2 (some .boolean) [.ref (b + 215), .int x1] I r.2 (some (.int r.1)) := by
  unfold f_M_isBox at h
  refine j_enter (plainFor_of_name (by decide)) (Nat.le_of_ble_eq_true rfl) [some (.ref (b + 215)), some (.int x1)] rfl ?_
  intro p e R s m args below meth c X0 hnm hRc hRs
  have X : j_X p R s m args meth c g b 1 jb_M_isBox 2 "PleasureGardenModel" (some .boolean) := X0
  clear X0
  refine j_iload_n X jd_M_isBox_0 rfl rfl ?_
  refine j_iconst (v := 0) X jd_M_isBox_1 (by decide) ?_
  refine j_aload_n X jd_M_isBox_2 rfl rfl ?_
  refine j_get X jf_M_257 jk_12_40 js_215 (j_lt rfl hn) jd_M_isBox_3 ?_
  refine j_iconst (v := 1) X jd_M_isBox_6 (by decide) ?_
  refine j_isub X jd_M_isBox_7 ?_
  refine j_callSi (As := [.int x1, .int 0, .int ((I 215 40) - 1)]) (st := []) X h ⟨jqc_M_among, jqs_M_among, jqn_M⟩ jlm_M_158 jh_M_among.2 rfl (by decide) (by decide) (Nat.le_of_ble_eq_true rfl) ⟨Nat.zero_le _, Nat.zero_le _⟩ (fun v0 I0 h => k_M_among (r := (v0, I0)) hF hn h) jd_M_isBox_8 rfl (fun v1 I2 h => ?_)
  refine j_guard h (fun hz h => ?_)
  exact j_zret X rfl hz jd_M_isBox_11 h
-- PleasureGardenModel.ham(I)I
theorem jd_M_ham_0 : decode jb_M_ham 0 = .ok (.iload_n 1, 1) := by decide +kernel
theorem jd_M_ham_1 : decode jb_M_ham 1 = .ok (.iconst 1, 1) := by decide +kernel
theorem jd_M_ham_2 : decode jb_M_ham 2 = .ok (.sipush 9999, 3) := by decide +kernel
theorem jd_M_ham_5 : decode jb_M_ham 5 = .ok (.invokestatic 158, 3) := by decide +kernel
theorem jd_M_ham_8 : decode jb_M_ham 8 = .ok (.ifCond .ne 5, 3) := by decide +kernel
theorem jd_M_ham_11 : decode jb_M_ham 11 = .ok (.iconst (-1), 1) := by decide +kernel
theorem jd_M_ham_12 : decode jb_M_ham 12 = .ok (.ireturn, 1) := by decide +kernel
theorem jd_M_ham_13 : decode jb_M_ham 13 = .ok (.aload_n 0, 1) := by decide +kernel
theorem jd_M_ham_14 : decode jb_M_ham 14 = .ok (.getfield 266, 3) := by decide +kernel
theorem jd_M_ham_17 : decode jb_M_ham 17 = .ok (.iload_n 1, 1) := by decide +kernel
theorem jd_M_ham_18 : decode jb_M_ham 18 = .ok (.iadd, 1) := by decide +kernel
theorem jd_M_ham_19 : decode jb_M_ham 19 = .ok (.ldc_w 269, 3) := by decide +kernel
theorem jd_M_ham_22 : decode jb_M_ham 22 = .ok (.if_icmp .le 6, 3) := by decide +kernel
theorem jd_M_ham_25 : decode jb_M_ham 25 = .ok (.bipush (-3), 2) := by decide +kernel
theorem jd_M_ham_27 : decode jb_M_ham 27 = .ok (.ireturn, 1) := by decide +kernel
theorem jd_M_ham_28 : decode jb_M_ham 28 = .ok (.aload_n 0, 1) := by decide +kernel
theorem jd_M_ham_29 : decode jb_M_ham 29 = .ok (.dup, 1) := by decide +kernel
theorem jd_M_ham_30 : decode jb_M_ham 30 = .ok (.getfield 266, 3) := by decide +kernel
theorem jd_M_ham_33 : decode jb_M_ham 33 = .ok (.iload_n 1, 1) := by decide +kernel
theorem jd_M_ham_34 : decode jb_M_ham 34 = .ok (.iadd, 1) := by decide +kernel
theorem jd_M_ham_35 : decode jb_M_ham 35 = .ok (.putfield 266, 3) := by decide +kernel
theorem jd_M_ham_38 : decode jb_M_ham 38 = .ok (.aload_n 0, 1) := by decide +kernel
theorem jd_M_ham_39 : decode jb_M_ham 39 = .ok (.getfield 266, 3) := by decide +kernel
theorem jd_M_ham_42 : decode jb_M_ham 42 = .ok (.ireturn, 1) := by decide +kernel
def f_M_ham (F : Nat) (x1 : Int32) (I : j_M) : Option (Int32 × j_M) := j_bd (f_M_among F x1 1 9999 I) (fun v1 I2 => (if v1 = 0 then some ((-1), I2) else (if ((I2 215 43) + x1) ≤ 99999 then j_let (j_wr I2 215 43 ((I2 215 43) + x1)) (fun I3 => some (I3 215 43, I3)) else some ((-3), I2))))
set_option maxRecDepth 100000 in
set_option maxHeartbeats 4000000 in
theorem k_M_ham {l : Launch} {g : j_G} {b n : Nat} {P : j_R} {F : Nat} (hF : j_Fx 0 260 P) (hn : 260 ≤ n) {x1 : Int32} {I : j_M} {r : Int32 × j_M}  (h : f_M_ham F x1 I = some r) : j_Met l g b n P 1 jy_M_ham jb_M_ham 2 (some .int) [.ref (b + 215), .int x1] I r.2 (some (.int r.1)) := by
  unfold f_M_ham at h
  refine j_enter (plainFor_of_name (by decide)) (Nat.le_of_ble_eq_true rfl) [some (.ref (b + 215)), some (.int x1)] rfl ?_
  intro p e R s m args below meth c X0 hnm hRc hRs
  have X : j_X p R s m args meth c g b 1 jb_M_ham 2 "PleasureGardenModel" (some .int) := X0
  clear X0
  refine j_iload_n X jd_M_ham_0 rfl rfl ?_
  refine j_iconst (v := 1) X jd_M_ham_1 (by decide) ?_
  refine j_sipush (v := 9999) X jd_M_ham_2 (by decide) ?_
  refine j_callSi (As := [.int x1, .int 1, .int 9999]) (st := []) X h ⟨jqc_M_among, jqs_M_among, jqn_M⟩ jlm_M_158 jh_M_among.2 rfl (by decide) (by decide) (Nat.le_of_ble_eq_true rfl) ⟨Nat.zero_le _, Nat.zero_le _⟩ (fun v0 I0 h => k_M_among (r := (v0, I0)) hF hn h) jd_M_ham_5 rfl (fun v1 I2 h => ?_)
  refine j_if_ne (tgt := 13) X jd_M_ham_8 rfl h (fun h => ?_) (fun h => ?_)
  · refine j_iconst (v := (-1)) X jd_M_ham_11 (by decide) ?_
    exact j_iret X rfl jd_M_ham_12 h
  · refine j_aload_n X jd_M_ham_13 rfl rfl ?_
    refine j_get X jf_M_266 jk_12_43 js_215 (j_lt rfl hn) jd_M_ham_14 ?_
    refine j_iload_n X jd_M_ham_17 rfl rfl ?_
    refine j_iadd X jd_M_ham_18 ?_
    refine j_ldcw (v := 99999) X jlc_M_269 jd_M_ham_19 ?_
    refine j_icmp_le (tgt := 28) X jd_M_ham_22 rfl h (fun h => ?_) (fun h => ?_)
    · refine j_aload_n X jd_M_ham_28 rfl rfl ?_
      refine j_dup X jd_M_ham_29 rfl ?_
      refine j_get X jf_M_266 jk_12_43 js_215 (j_lt rfl hn) jd_M_ham_30 ?_
      refine j_iload_n X jd_M_ham_33 rfl rfl ?_
      refine j_iadd X jd_M_ham_34 ?_
      refine j_puti X jt_M jto_M jn_M jf_M_266 jk_12_43 js_215 (j_lt rfl hn) (Or.inl rfl) rfl jd_M_ham_35 ?_
      refine j_mem h (fun I3 h => ?_)
      refine j_aload_n X jd_M_ham_38 rfl rfl ?_
      refine j_get X jf_M_266 jk_12_43 js_215 (j_lt rfl hn) jd_M_ham_39 ?_
      exact j_iret X rfl jd_M_ham_42 h
    · refine j_bipush (v := (-3)) X jd_M_ham_25 (by decide) ?_
      exact j_iret X rfl jd_M_ham_27 h
-- PleasureGardenModel.rule(II)I
theorem jd_M_rule_0 : decode jb_M_rule 0 = .ok (.iload_n 1, 1) := by decide +kernel
theorem jd_M_rule_1 : decode jb_M_rule 1 = .ok (.ifCond .ne 16, 3) := by decide +kernel
theorem jd_M_rule_4 : decode jb_M_rule 4 = .ok (.iload_n 2, 1) := by decide +kernel
theorem jd_M_rule_5 : decode jb_M_rule 5 = .ok (.iconst 5, 1) := by decide +kernel
theorem jd_M_rule_6 : decode jb_M_rule 6 = .ok (.bipush 99, 2) := by decide +kernel
theorem jd_M_rule_8 : decode jb_M_rule 8 = .ok (.invokestatic 158, 3) := by decide +kernel
theorem jd_M_rule_11 : decode jb_M_rule 11 = .ok (.ifCond .ne 23, 3) := by decide +kernel
theorem jd_M_rule_14 : decode jb_M_rule 14 = .ok (.goto 18, 3) := by decide +kernel
theorem jd_M_rule_17 : decode jb_M_rule 17 = .ok (.iload_n 1, 1) := by decide +kernel
theorem jd_M_rule_18 : decode jb_M_rule 18 = .ok (.iconst 1, 1) := by decide +kernel
theorem jd_M_rule_19 : decode jb_M_rule 19 = .ok (.if_icmp .ne 13, 3) := by decide +kernel
theorem jd_M_rule_22 : decode jb_M_rule 22 = .ok (.iload_n 2, 1) := by decide +kernel
theorem jd_M_rule_23 : decode jb_M_rule 23 = .ok (.iconst 0, 1) := by decide +kernel
theorem jd_M_rule_24 : decode jb_M_rule 24 = .ok (.bipush 9, 2) := by decide +kernel
theorem jd_M_rule_26 : decode jb_M_rule 26 = .ok (.invokestatic 158, 3) := by decide +kernel
theorem jd_M_rule_29 : decode jb_M_rule 29 = .ok (.ifCond .ne 5, 3) := by decide +kernel
theorem jd_M_rule_32 : decode jb_M_rule 32 = .ok (.iconst (-1), 1) := by decide +kernel
theorem jd_M_rule_33 : decode jb_M_rule 33 = .ok (.ireturn, 1) := by decide +kernel
theorem jd_M_rule_34 : decode jb_M_rule 34 = .ok (.iload_n 1, 1) := by decide +kernel
theorem jd_M_rule_35 : decode jb_M_rule 35 = .ok (.ifCond .ne 10, 3) := by decide +kernel
theorem jd_M_rule_38 : decode jb_M_rule 38 = .ok (.aload_n 0, 1) := by decide +kernel
theorem jd_M_rule_39 : decode jb_M_rule 39 = .ok (.getfield 91, 3) := by decide +kernel
theorem jd_M_rule_42 : decode jb_M_rule 42 = .ok (.goto 7, 3) := by decide +kernel
theorem jd_M_rule_45 : decode jb_M_rule 45 = .ok (.aload_n 0, 1) := by decide +kernel
theorem jd_M_rule_46 : decode jb_M_rule 46 = .ok (.getfield 95, 3) := by decide +kernel
theorem jd_M_rule_49 : decode jb_M_rule 49 = .ok (.istore_n 3, 1) := by decide +kernel
theorem jd_M_rule_50 : decode jb_M_rule 50 = .ok (.iload_n 1, 1) := by decide +kernel
theorem jd_M_rule_51 : decode jb_M_rule 51 = .ok (.ifCond .ne 11, 3) := by decide +kernel
theorem jd_M_rule_54 : decode jb_M_rule 54 = .ok (.aload_n 0, 1) := by decide +kernel
theorem jd_M_rule_55 : decode jb_M_rule 55 = .ok (.iload_n 2, 1) := by decide +kernel
theorem jd_M_rule_56 : decode jb_M_rule 56 = .ok (.putfield 91, 3) := by decide +kernel
theorem jd_M_rule_59 : decode jb_M_rule 59 = .ok (.goto 8, 3) := by decide +kernel
theorem jd_M_rule_62 : decode jb_M_rule 62 = .ok (.aload_n 0, 1) := by decide +kernel
theorem jd_M_rule_63 : decode jb_M_rule 63 = .ok (.iload_n 2, 1) := by decide +kernel
theorem jd_M_rule_64 : decode jb_M_rule 64 = .ok (.putfield 95, 3) := by decide +kernel
theorem jd_M_rule_67 : decode jb_M_rule 67 = .ok (.iload_n 3, 1) := by decide +kernel
theorem jd_M_rule_68 : decode jb_M_rule 68 = .ok (.ireturn, 1) := by decide +kernel
def f_M_rule_49 (F : Nat)  (x1 : Int32) (x2 : Int32) (s0 : Int32) (I : j_M) : Option (Int32 × j_M) := (if x1 = 0 then j_let (j_wr I 215 44 x2) (fun I1 => some (s0, I1)) else j_let (j_wr I 215 45 x2) (fun I2 => some (s0, I2)))
def f_M_rule_34 (F : Nat)  (x1 : Int32) (x2 : Int32) (I : j_M) : Option (Int32 × j_M) := (if x1 = 0 then f_M_rule_49 F x1 x2 (I 215 44) I else f_M_rule_49 F x1 x2 (I 215 45) I)
def f_M_rule (F : Nat) (x1 : Int32) (x2 : Int32) (I : j_M) : Option (Int32 × j_M) := (if x1 = 0 then j_bd (f_M_among F x2 5 99 I) (fun v3 I4 => (if v3 = 0 then some ((-1), I4) else f_M_rule_34 F x1 x2 I4)) else (if x1 = 1 then j_bd (f_M_among F x2 0 9 I) (fun v5 I6 => (if v5 = 0 then some ((-1), I6) else f_M_rule_34 F x1 x2 I6)) else some ((-1), I)))
set_option maxRecDepth 100000 in
set_option maxHeartbeats 4000000 in
theorem k_M_rule_49 {p : Program} {l : Launch} {e : Env} {R : Room} {s : State} {m : MethodId} {args : Array Value} {below : List Frame} {meth : Method} {c : Code} {g : j_G} {b n : Nat} {P : j_R} {F : Nat} (hF : j_Fx 0 260 P) (hn : 260 ≤ n) (X : j_X p R s m args meth c g b 1 jb_M_rule 4 "PleasureGardenModel" (some .int))  {x1 : Int32} {x2 : Int32} {s0 : Int32} {I : j_M} {r : Int32 × j_M}  (h : f_M_rule_49 F x1 x2 s0 I = some r) : j_W p l e R s m args below meth c 4 g b n 0 0 (j_Qi g b n P below args s r) I P 49 [some (.ref (b + 215)), some (.int x1), some (.int x2), none] [.int s0] := by
  unfold f_M_rule_49 at h
  refine j_istore_n (lv' := [some (.ref (b + 215)), some (.int x1), some (.int x2), some (.int s0)]) X jd_M_rule_49 rfl (by decide) rfl ?_
  refine j_iload_n X jd_M_rule_50 rfl rfl ?_
  refine j_if_ne (tgt := 62) X jd_M_rule_51 rfl h (fun h => ?_) (fun h => ?_)
  · refine j_aload_n X jd_M_rule_54 rfl rfl ?_
    refine j_iload_n X jd_M_rule_55 rfl rfl ?_
    refine j_puti X jt_M jto_M jn_M jf_M_91 jk_12_44 js_215 (j_lt rfl hn) (Or.inl rfl) rfl jd_M_rule_56 ?_
    refine j_mem h (fun I1 h => ?_)
    refine j_goto (tgt := 67) X jd_M_rule_59 rfl ?_
    refine j_iload_n X jd_M_rule_67 rfl rfl ?_
    exact j_iret X rfl jd_M_rule_68 h
  · refine j_aload_n X jd_M_rule_62 rfl rfl ?_
    refine j_iload_n X jd_M_rule_63 rfl rfl ?_
    refine j_puti X jt_M jto_M jn_M jf_M_95 jk_12_45 js_215 (j_lt rfl hn) (Or.inl rfl) rfl jd_M_rule_64 ?_
    refine j_mem h (fun I2 h => ?_)
    refine j_iload_n X jd_M_rule_67 rfl rfl ?_
    exact j_iret X rfl jd_M_rule_68 h
set_option maxRecDepth 100000 in
set_option maxHeartbeats 4000000 in
theorem k_M_rule_34 {p : Program} {l : Launch} {e : Env} {R : Room} {s : State} {m : MethodId} {args : Array Value} {below : List Frame} {meth : Method} {c : Code} {g : j_G} {b n : Nat} {P : j_R} {F : Nat} (hF : j_Fx 0 260 P) (hn : 260 ≤ n) (X : j_X p R s m args meth c g b 1 jb_M_rule 4 "PleasureGardenModel" (some .int))  {x1 : Int32} {x2 : Int32} {I : j_M} {r : Int32 × j_M}  (h : f_M_rule_34 F x1 x2 I = some r) : j_W p l e R s m args below meth c 4 g b n 0 0 (j_Qi g b n P below args s r) I P 34 [some (.ref (b + 215)), some (.int x1), some (.int x2), none] [] := by
  unfold f_M_rule_34 at h
  refine j_iload_n X jd_M_rule_34 rfl rfl ?_
  refine j_if_ne (tgt := 45) X jd_M_rule_35 rfl h (fun h => ?_) (fun h => ?_)
  · refine j_aload_n X jd_M_rule_38 rfl rfl ?_
    refine j_get X jf_M_91 jk_12_44 js_215 (j_lt rfl hn) jd_M_rule_39 ?_
    refine j_goto (tgt := 49) X jd_M_rule_42 rfl ?_
    exact k_M_rule_49 hF hn X h
  · refine j_aload_n X jd_M_rule_45 rfl rfl ?_
    refine j_get X jf_M_95 jk_12_45 js_215 (j_lt rfl hn) jd_M_rule_46 ?_
    exact k_M_rule_49 hF hn X h
set_option maxRecDepth 100000 in
set_option maxHeartbeats 4000000 in
theorem k_M_rule {l : Launch} {g : j_G} {b n : Nat} {P : j_R} {F : Nat} (hF : j_Fx 0 260 P) (hn : 260 ≤ n) {x1 : Int32} {x2 : Int32} {I : j_M} {r : Int32 × j_M}  (h : f_M_rule F x1 x2 I = some r) : j_Met l g b n P 1 jy_M_rule jb_M_rule 4 (some .int) [.ref (b + 215), .int x1, .int x2] I r.2 (some (.int r.1)) := by
  unfold f_M_rule at h
  refine j_enter (plainFor_of_name (by decide)) (Nat.le_of_ble_eq_true rfl) [some (.ref (b + 215)), some (.int x1), some (.int x2), none] rfl ?_
  intro p e R s m args below meth c X0 hnm hRc hRs
  have X : j_X p R s m args meth c g b 1 jb_M_rule 4 "PleasureGardenModel" (some .int) := X0
  clear X0
  refine j_iload_n X jd_M_rule_0 rfl rfl ?_
  refine j_if_ne (tgt := 17) X jd_M_rule_1 rfl h (fun h => ?_) (fun h => ?_)
  · refine j_iload_n X jd_M_rule_4 rfl rfl ?_
    refine j_iconst (v := 5) X jd_M_rule_5 (by decide) ?_
    refine j_bipush (v := 99) X jd_M_rule_6 (by decide) ?_
    refine j_callSi (As := [.int x2, .int 5, .int 99]) (st := []) X h ⟨jqc_M_among, jqs_M_among, jqn_M⟩ jlm_M_158 jh_M_among.2 rfl (by decide) (by decide) (Nat.le_of_ble_eq_true rfl) ⟨Nat.zero_le _, Nat.zero_le _⟩ (fun v0 I0 h => k_M_among (r := (v0, I0)) hF hn h) jd_M_rule_8 rfl (fun v3 I4 h => ?_)
    refine j_if_ne (tgt := 34) X jd_M_rule_11 rfl h (fun h => ?_) (fun h => ?_)
    · refine j_goto (tgt := 32) X jd_M_rule_14 rfl ?_
      refine j_iconst (v := (-1)) X jd_M_rule_32 (by decide) ?_
      exact j_iret X rfl jd_M_rule_33 h
    · exact k_M_rule_34 hF hn X h
  · refine j_iload_n X jd_M_rule_17 rfl rfl ?_
    refine j_iconst (v := 1) X jd_M_rule_18 (by decide) ?_
    refine j_icmp_ne (tgt := 32) X jd_M_rule_19 rfl h (fun h => ?_) (fun h => ?_)
    · refine j_iload_n X jd_M_rule_22 rfl rfl ?_
      refine j_iconst (v := 0) X jd_M_rule_23 (by decide) ?_
      refine j_bipush (v := 9) X jd_M_rule_24 (by decide) ?_
      refine j_callSi (As := [.int x2, .int 0, .int 9]) (st := []) X h ⟨jqc_M_among, jqs_M_among, jqn_M⟩ jlm_M_158 jh_M_among.2 rfl (by decide) (by decide) (Nat.le_of_ble_eq_true rfl) ⟨Nat.zero_le _, Nat.zero_le _⟩ (fun v0 I0 h => k_M_among (r := (v0, I0)) hF hn h) jd_M_rule_26 rfl (fun v5 I6 h => ?_)
      refine j_if_ne (tgt := 34) X jd_M_rule_29 rfl h (fun h => ?_) (fun h => ?_)
      · refine j_iconst (v := (-1)) X jd_M_rule_32 (by decide) ?_
        exact j_iret X rfl jd_M_rule_33 h
      · exact k_M_rule_34 hF hn X h
    · refine j_iconst (v := (-1)) X jd_M_rule_32 (by decide) ?_
      exact j_iret X rfl jd_M_rule_33 h
-- PleasureGardenModel.feed(II)I
theorem jd_M_feed_0 : decode jb_M_feed 0 = .ok (.iload_n 1, 1) := by decide +kernel
theorem jd_M_feed_1 : decode jb_M_feed 1 = .ok (.iconst 1, 1) := by decide +kernel
theorem jd_M_feed_2 : decode jb_M_feed 2 = .ok (.iconst 4, 1) := by decide +kernel
theorem jd_M_feed_3 : decode jb_M_feed 3 = .ok (.invokestatic 158, 3) := by decide +kernel
theorem jd_M_feed_6 : decode jb_M_feed 6 = .ok (.ifCond .ne 5, 3) := by decide +kernel
theorem jd_M_feed_9 : decode jb_M_feed 9 = .ok (.iconst (-1), 1) := by decide +kernel
theorem jd_M_feed_10 : decode jb_M_feed 10 = .ok (.ireturn, 1) := by decide +kernel
theorem jd_M_feed_11 : decode jb_M_feed 11 = .ok (.aload_n 0, 1) := by decide +kernel
theorem jd_M_feed_12 : decode jb_M_feed 12 = .ok (.getfield 273, 3) := by decide +kernel
theorem jd_M_feed_15 : decode jb_M_feed 15 = .ok (.iload_n 1, 1) := by decide +kernel
theorem jd_M_feed_16 : decode jb_M_feed 16 = .ok (.iadd, 1) := by decide +kernel
theorem jd_M_feed_17 : decode jb_M_feed 17 = .ok (.bipush 120, 2) := by decide +kernel
theorem jd_M_feed_19 : decode jb_M_feed 19 = .ok (.if_icmp .le 6, 3) := by decide +kernel
theorem jd_M_feed_22 : decode jb_M_feed 22 = .ok (.bipush (-3), 2) := by decide +kernel
theorem jd_M_feed_24 : decode jb_M_feed 24 = .ok (.ireturn, 1) := by decide +kernel
theorem jd_M_feed_25 : decode jb_M_feed 25 = .ok (.iconst 0, 1) := by decide +kernel
theorem jd_M_feed_26 : decode jb_M_feed 26 = .ok (.istore_n 3, 1) := by decide +kernel
theorem jd_M_feed_27 : decode jb_M_feed 27 = .ok (.iload_n 3, 1) := by decide +kernel
theorem jd_M_feed_28 : decode jb_M_feed 28 = .ok (.iload_n 1, 1) := by decide +kernel
theorem jd_M_feed_29 : decode jb_M_feed 29 = .ok (.if_icmp .ge 35, 3) := by decide +kernel
theorem jd_M_feed_32 : decode jb_M_feed 32 = .ok (.aload_n 0, 1) := by decide +kernel
theorem jd_M_feed_33 : decode jb_M_feed 33 = .ok (.getfield 107, 3) := by decide +kernel
theorem jd_M_feed_36 : decode jb_M_feed 36 = .ok (.aload_n 0, 1) := by decide +kernel
theorem jd_M_feed_37 : decode jb_M_feed 37 = .ok (.getfield 273, 3) := by decide +kernel
theorem jd_M_feed_40 : decode jb_M_feed 40 = .ok (.iload_n 2, 1) := by decide +kernel
theorem jd_M_feed_41 : decode jb_M_feed 41 = .ok (.bipush 8, 2) := by decide +kernel
theorem jd_M_feed_43 : decode jb_M_feed 43 = .ok (.iload_n 3, 1) := by decide +kernel
theorem jd_M_feed_44 : decode jb_M_feed 44 = .ok (.imul, 1) := by decide +kernel
theorem jd_M_feed_45 : decode jb_M_feed 45 = .ok (.ishr, 1) := by decide +kernel
theorem jd_M_feed_46 : decode jb_M_feed 46 = .ok (.i2b, 1) := by decide +kernel
theorem jd_M_feed_47 : decode jb_M_feed 47 = .ok (.bastore, 1) := by decide +kernel
theorem jd_M_feed_48 : decode jb_M_feed 48 = .ok (.aload_n 0, 1) := by decide +kernel
theorem jd_M_feed_49 : decode jb_M_feed 49 = .ok (.dup, 1) := by decide +kernel
theorem jd_M_feed_50 : decode jb_M_feed 50 = .ok (.getfield 273, 3) := by decide +kernel
theorem jd_M_feed_53 : decode jb_M_feed 53 = .ok (.iconst 1, 1) := by decide +kernel
theorem jd_M_feed_54 : decode jb_M_feed 54 = .ok (.iadd, 1) := by decide +kernel
theorem jd_M_feed_55 : decode jb_M_feed 55 = .ok (.putfield 273, 3) := by decide +kernel
theorem jd_M_feed_58 : decode jb_M_feed 58 = .ok (.iinc 3 1, 3) := by decide +kernel
theorem jd_M_feed_61 : decode jb_M_feed 61 = .ok (.goto (-34), 3) := by decide +kernel
theorem jd_M_feed_64 : decode jb_M_feed 64 = .ok (.aload_n 0, 1) := by decide +kernel
theorem jd_M_feed_65 : decode jb_M_feed 65 = .ok (.getfield 273, 3) := by decide +kernel
theorem jd_M_feed_68 : decode jb_M_feed 68 = .ok (.ireturn, 1) := by decide +kernel
def f_M_feed_27b (F : Nat) (kb27 : Int32 → Int32 → Int32 → j_M → Option (Int32 × j_M)) (x1 : Int32) (x2 : Int32) (x3 : Int32) (I : j_M) : Option (Int32 × j_M) := (if x1 ≤ x3 then some (I 215 51, I) else (if j_ok (I 215 51) 120 = true then j_let (j_wr I 245 (j_ix (I 215 51)) ((x2 >>> ((8 * x3) &&& 31)).toInt8.toInt32).toInt8.toInt32) (fun I1 => j_let (j_wr I1 215 51 ((I1 215 51) + 1)) (fun I2 => j_let (x3 + 1) (fun v3 => kb27 x1 x2 v3 I2))) else none))
def f_M_feed_27 (F : Nat)  (x1 : Int32) (x2 : Int32) (x3 : Int32) (I : j_M) : Option (Int32 × j_M) := j_it (fun (again : Int32 × Int32 × Int32 × j_M → Option (Int32 × j_M)) (q : Int32 × Int32 × Int32 × j_M) => f_M_feed_27b F  (fun x1 x2 x3 I => again (x1, x2, x3, I))  q.1 q.2.1 q.2.2.1 q.2.2.2) F (x1, x2, x3, I)
def f_M_feed (F : Nat) (x1 : Int32) (x2 : Int32) (I : j_M) : Option (Int32 × j_M) := j_bd (f_M_among F x1 1 4 I) (fun v4 I5 => (if v4 = 0 then some ((-1), I5) else (if ((I5 215 51) + x1) ≤ 120 then f_M_feed_27 F x1 x2 0 I5 else some ((-3), I5))))
set_option maxRecDepth 100000 in
set_option maxHeartbeats 4000000 in
theorem k_M_feed_27b {p : Program} {l : Launch} {e : Env} {R : Room} {s : State} {m : MethodId} {args : Array Value} {below : List Frame} {meth : Method} {c : Code} {g : j_G} {b n : Nat} {P : j_R} {F : Nat} (hF : j_Fx 0 260 P) (hn : 260 ≤ n) (X : j_X p R s m args meth c g b 1 jb_M_feed 4 "PleasureGardenModel" (some .int)) {kb27 : Int32 → Int32 → Int32 → j_M → Option (Int32 × j_M)} (hkb27 : ∀ (x1 : Int32) (x2 : Int32) (x3 : Int32) (I : j_M) (r : Int32 × j_M), kb27 x1 x2 x3 I = some r → j_W p l e R s m args below meth c 4 g b n 0 0 (j_Qi g b n P below args s r) I P 27 [some (.ref (b + 215)), some (.int x1), some (.int x2), some (.int x3)] []) {x1 : Int32} {x2 : Int32} {x3 : Int32} {I : j_M} {r : Int32 × j_M}  (h : f_M_feed_27b F kb27 x1 x2 x3 I = some r) : j_W p l e R s m args below meth c 4 g b n 0 0 (j_Qi g b n P below args s r) I P 27 [some (.ref (b + 215)), some (.int x1), some (.int x2), some (.int x3)] [] := by
  unfold f_M_feed_27b at h
  refine j_iload_n X jd_M_feed_27 rfl rfl ?_
  refine j_iload_n X jd_M_feed_28 rfl rfl ?_
  refine j_icmp_ge (tgt := 64) X jd_M_feed_29 rfl h (fun h => ?_) (fun h => ?_)
  · refine j_aload_n X jd_M_feed_64 rfl rfl ?_
    refine j_get X jf_M_273 jk_12_51 js_215 (j_lt rfl hn) jd_M_feed_65 ?_
    exact j_iret X rfl jd_M_feed_68 h
  · refine j_aload_n X jd_M_feed_32 rfl rfl ?_
    refine j_getr X jf_M_107 jk_12_50 js_215 (j_lt rfl hn) (jp_215_50 hF) jd_M_feed_33 ?_
    refine j_aload_n X jd_M_feed_36 rfl rfl ?_
    refine j_get X jf_M_273 jk_12_51 js_215 (j_lt rfl hn) jd_M_feed_37 ?_
    refine j_iload_n X jd_M_feed_40 rfl rfl ?_
    refine j_bipush (v := 8) X jd_M_feed_41 (by decide) ?_
    refine j_iload_n X jd_M_feed_43 rfl rfl ?_
    refine j_imul X jd_M_feed_44 ?_
    refine j_ishr X jd_M_feed_45 ?_
    refine j_i2b X jd_M_feed_46 ?_
    refine j_bast X js_245 (j_lt rfl hn) jd_M_feed_47 h (fun h => ?_)
    refine j_mem h (fun I1 h => ?_)
    refine j_aload_n X jd_M_feed_48 rfl rfl ?_
    refine j_dup X jd_M_feed_49 rfl ?_
    refine j_get X jf_M_273 jk_12_51 js_215 (j_lt rfl hn) jd_M_feed_50 ?_
    refine j_iconst (v := 1) X jd_M_feed_53 (by decide) ?_
    refine j_iadd X jd_M_feed_54 ?_
    refine j_puti X jt_M jto_M jn_M jf_M_273 jk_12_51 js_215 (j_lt rfl hn) (Or.inl rfl) rfl jd_M_feed_55 ?_
    refine j_mem h (fun I2 h => ?_)
    obtain ⟨v3, ev3, h⟩ := j_ex h
    refine j_iinc (v := v3) (lv' := [some (.ref (b + 215)), some (.int x1), some (.int x2), some (.int v3)]) X jd_M_feed_58 rfl (by rw [ev3]; rfl) (by decide) rfl ?_
    refine j_goto (tgt := 27) X jd_M_feed_61 rfl ?_
    exact hkb27 _ _ _ _ _ h
set_option maxRecDepth 100000 in
set_option maxHeartbeats 4000000 in
theorem k_M_feed_27 {p : Program} {l : Launch} {e : Env} {R : Room} {s : State} {m : MethodId} {args : Array Value} {below : List Frame} {meth : Method} {c : Code} {g : j_G} {b n : Nat} {P : j_R} {F : Nat} (hF : j_Fx 0 260 P) (hn : 260 ≤ n) (X : j_X p R s m args meth c g b 1 jb_M_feed 4 "PleasureGardenModel" (some .int))  {x1 : Int32} {x2 : Int32} {x3 : Int32} {I : j_M} {r : Int32 × j_M} (h : f_M_feed_27 F x1 x2 x3 I = some r) : j_W p l e R s m args below meth c 4 g b n 0 0 (j_Qi g b n P below args s r) I P 27 [some (.ref (b + 215)), some (.int x1), some (.int x2), some (.int x3)] [] := by
  refine j_loop (G := fun (q : Int32 × Int32 × Int32 × j_M) (r : Int32 × j_M) => j_W p l e R s m args below meth c 4 g b n 0 0 (j_Qi g b n P below args s r) q.2.2.2 P 27 [some (.ref (b + 215)), some (.int (q.1)), some (.int (q.2.1)), some (.int (q.2.2.1))] []) ?_ F (x1, x2, x3, I) r h
  intro again hrec0 q r h
  exact k_M_feed_27b hF hn X (fun x1 x2 x3 I r h => hrec0 (x1, x2, x3, I) r h)  h
set_option maxRecDepth 100000 in
set_option maxHeartbeats 4000000 in
theorem k_M_feed {l : Launch} {g : j_G} {b n : Nat} {P : j_R} {F : Nat} (hF : j_Fx 0 260 P) (hn : 260 ≤ n) {x1 : Int32} {x2 : Int32} {I : j_M} {r : Int32 × j_M}  (h : f_M_feed F x1 x2 I = some r) : j_Met l g b n P 1 jy_M_feed jb_M_feed 4 (some .int) [.ref (b + 215), .int x1, .int x2] I r.2 (some (.int r.1)) := by
  unfold f_M_feed at h
  refine j_enter (plainFor_of_name (by decide)) (Nat.le_of_ble_eq_true rfl) [some (.ref (b + 215)), some (.int x1), some (.int x2), none] rfl ?_
  intro p e R s m args below meth c X0 hnm hRc hRs
  have X : j_X p R s m args meth c g b 1 jb_M_feed 4 "PleasureGardenModel" (some .int) := X0
  clear X0
  refine j_iload_n X jd_M_feed_0 rfl rfl ?_
  refine j_iconst (v := 1) X jd_M_feed_1 (by decide) ?_
  refine j_iconst (v := 4) X jd_M_feed_2 (by decide) ?_
  refine j_callSi (As := [.int x1, .int 1, .int 4]) (st := []) X h ⟨jqc_M_among, jqs_M_among, jqn_M⟩ jlm_M_158 jh_M_among.2 rfl (by decide) (by decide) (Nat.le_of_ble_eq_true rfl) ⟨Nat.zero_le _, Nat.zero_le _⟩ (fun v0 I0 h => k_M_among (r := (v0, I0)) hF hn h) jd_M_feed_3 rfl (fun v4 I5 h => ?_)
  refine j_if_ne (tgt := 11) X jd_M_feed_6 rfl h (fun h => ?_) (fun h => ?_)
  · refine j_iconst (v := (-1)) X jd_M_feed_9 (by decide) ?_
    exact j_iret X rfl jd_M_feed_10 h
  · refine j_aload_n X jd_M_feed_11 rfl rfl ?_
    refine j_get X jf_M_273 jk_12_51 js_215 (j_lt rfl hn) jd_M_feed_12 ?_
    refine j_iload_n X jd_M_feed_15 rfl rfl ?_
    refine j_iadd X jd_M_feed_16 ?_
    refine j_bipush (v := 120) X jd_M_feed_17 (by decide) ?_
    refine j_icmp_le (tgt := 25) X jd_M_feed_19 rfl h (fun h => ?_) (fun h => ?_)
    · refine j_iconst (v := 0) X jd_M_feed_25 (by decide) ?_
      refine j_istore_n (lv' := [some (.ref (b + 215)), some (.int x1), some (.int x2), some (.int 0)]) X jd_M_feed_26 rfl (by decide) rfl ?_
      exact k_M_feed_27 hF hn X h
    · refine j_bipush (v := (-3)) X jd_M_feed_22 (by decide) ?_
      exact j_iret X rfl jd_M_feed_24 h
-- PleasureGardenModel.done(II)V
theorem jd_M_done_0 : decode jb_M_done 0 = .ok (.aload_n 0, 1) := by decide +kernel
theorem jd_M_done_1 : decode jb_M_done 1 = .ok (.getfield 279, 3) := by decide +kernel
theorem jd_M_done_4 : decode jb_M_done 4 = .ok (.ifCond .le 64, 3) := by decide +kernel
theorem jd_M_done_7 : decode jb_M_done 7 = .ok (.aload_n 0, 1) := by decide +kernel
theorem jd_M_done_8 : decode jb_M_done 8 = .ok (.getfield 128, 3) := by decide +kernel
theorem jd_M_done_11 : decode jb_M_done 11 = .ok (.aload_n 0, 1) := by decide +kernel
theorem jd_M_done_12 : decode jb_M_done 12 = .ok (.getfield 279, 3) := by decide +kernel
theorem jd_M_done_15 : decode jb_M_done 15 = .ok (.iconst 1, 1) := by decide +kernel
theorem jd_M_done_16 : decode jb_M_done 16 = .ok (.isub, 1) := by decide +kernel
theorem jd_M_done_17 : decode jb_M_done 17 = .ok (.iaload, 1) := by decide +kernel
theorem jd_M_done_18 : decode jb_M_done 18 = .ok (.iconst 4, 1) := by decide +kernel
theorem jd_M_done_19 : decode jb_M_done 19 = .ok (.if_icmp .eq 49, 3) := by decide +kernel
theorem jd_M_done_22 : decode jb_M_done 22 = .ok (.aload_n 0, 1) := by decide +kernel
theorem jd_M_done_23 : decode jb_M_done 23 = .ok (.getfield 128, 3) := by decide +kernel
theorem jd_M_done_26 : decode jb_M_done 26 = .ok (.aload_n 0, 1) := by decide +kernel
theorem jd_M_done_27 : decode jb_M_done 27 = .ok (.getfield 279, 3) := by decide +kernel
theorem jd_M_done_30 : decode jb_M_done 30 = .ok (.iconst 1, 1) := by decide +kernel
theorem jd_M_done_31 : decode jb_M_done 31 = .ok (.isub, 1) := by decide +kernel
theorem jd_M_done_32 : decode jb_M_done 32 = .ok (.iaload, 1) := by decide +kernel
theorem jd_M_done_33 : decode jb_M_done 33 = .ok (.invokestatic 282, 3) := by decide +kernel
theorem jd_M_done_36 : decode jb_M_done 36 = .ok (.iload_n 2, 1) := by decide +kernel
theorem jd_M_done_37 : decode jb_M_done 37 = .ok (.if_icmp .lt 31, 3) := by decide +kernel
theorem jd_M_done_40 : decode jb_M_done 40 = .ok (.aload_n 0, 1) := by decide +kernel
theorem jd_M_done_41 : decode jb_M_done 41 = .ok (.dup, 1) := by decide +kernel
theorem jd_M_done_42 : decode jb_M_done 42 = .ok (.getfield 279, 3) := by decide +kernel
theorem jd_M_done_45 : decode jb_M_done 45 = .ok (.iconst 1, 1) := by decide +kernel
theorem jd_M_done_46 : decode jb_M_done 46 = .ok (.isub, 1) := by decide +kernel
theorem jd_M_done_47 : decode jb_M_done 47 = .ok (.putfield 279, 3) := by decide +kernel
theorem jd_M_done_50 : decode jb_M_done 50 = .ok (.aload_n 0, 1) := by decide +kernel
theorem jd_M_done_51 : decode jb_M_done 51 = .ok (.iload_n 1, 1) := by decide +kernel
theorem jd_M_done_52 : decode jb_M_done 52 = .ok (.aload_n 0, 1) := by decide +kernel
theorem jd_M_done_53 : decode jb_M_done 53 = .ok (.getfield 128, 3) := by decide +kernel
theorem jd_M_done_56 : decode jb_M_done 56 = .ok (.aload_n 0, 1) := by decide +kernel
theorem jd_M_done_57 : decode jb_M_done 57 = .ok (.getfield 279, 3) := by decide +kernel
theorem jd_M_done_60 : decode jb_M_done 60 = .ok (.iaload, 1) := by decide +kernel
theorem jd_M_done_61 : decode jb_M_done 61 = .ok (.iconst 0, 1) := by decide +kernel
theorem jd_M_done_62 : decode jb_M_done 62 = .ok (.invokevirtual 285, 3) := by decide +kernel
theorem jd_M_done_65 : decode jb_M_done 65 = .ok (.goto (-65), 3) := by decide +kernel
theorem jd_M_done_68 : decode jb_M_done 68 = .ok (.return_, 1) := by decide +kernel
def f_M_done_0b (F : Nat) (kb0 : Int32 → Int32 → j_M → Option (Int32 × j_M)) (x1 : Int32) (x2 : Int32) (I : j_M) : Option (Int32 × j_M) := (if (I 215 60) ≤ 0 then some (0, I) else (if j_ok ((I 215 60) - 1) 130 = true then (if (I 252 (j_ix ((I 215 60) - 1))) = 4 then some (0, I) else (if j_ok ((I 215 60) - 1) 130 = true then j_bd (f_M_tight F (I 252 (j_ix ((I 215 60) - 1))) I) (fun v1 I2 => (if v1 < x2 then some (0, I2) else j_let (j_wr I2 215 60 ((I2 215 60) - 1)) (fun I3 => (if j_ok (I3 215 60) 130 = true then j_bd (f_M_lay F x1 (I3 252 (j_ix (I3 215 60))) 0 I3) (fun v4 I5 => kb0 x1 x2 I5) else none)))) else none)) else none))
def f_M_done_0 (F : Nat)  (x1 : Int32) (x2 : Int32) (I : j_M) : Option (Int32 × j_M) := j_it (fun (again : Int32 × Int32 × j_M → Option (Int32 × j_M)) (q : Int32 × Int32 × j_M) => f_M_done_0b F  (fun x1 x2 I => again (x1, x2, I))  q.1 q.2.1 q.2.2) F (x1, x2, I)
def f_M_done (F : Nat) (x1 : Int32) (x2 : Int32) (I : j_M) : Option (Int32 × j_M) := f_M_done_0 F x1 x2 I
set_option maxRecDepth 100000 in
set_option maxHeartbeats 4000000 in
theorem k_M_done_0b {p : Program} {l : Launch} {e : Env} {R : Room} {s : State} {m : MethodId} {args : Array Value} {below : List Frame} {meth : Method} {c : Code} {g : j_G} {b n : Nat} {P : j_R} {F : Nat} (hF : j_Fx 0 260 P) (hn : 260 ≤ n) (X : j_X p R s m args meth c g b 1 jb_M_done 3 "PleasureGardenModel" none) {kb0 : Int32 → Int32 → j_M → Option (Int32 × j_M)} (hkb0 : ∀ (x1 : Int32) (x2 : Int32) (I : j_M) (r : Int32 × j_M), kb0 x1 x2 I = some r → j_W p l e R s m args below meth c 3 g b n 0 0 (j_Qv g b n P below args s r) I P 0 [some (.ref (b + 215)), some (.int x1), some (.int x2)] []) {x1 : Int32} {x2 : Int32} {I : j_M} {r : Int32 × j_M}  (h : f_M_done_0b F kb0 x1 x2 I = some r) : j_W p l e R s m args below meth c 3 g b n 0 0 (j_Qv g b n P below args s r) I P 0 [some (.ref (b + 215)), some (.int x1), some (.int x2)] [] := by
  unfold f_M_done_0b at h
  refine j_aload_n X jd_M_done_0 rfl rfl ?_
  refine j_get X jf_M_279 jk_12_60 js_215 (j_lt rfl hn) jd_M_done_1 ?_
  refine j_if_le (tgt := 68) X jd_M_done_4 rfl h (fun h => ?_) (fun h => ?_)
  · exact j_vret X rfl jd_M_done_68 h
  · refine j_aload_n X jd_M_done_7 rfl rfl ?_
    refine j_getr X jf_M_128 jk_12_59 js_215 (j_lt rfl hn) (jp_215_59 hF) jd_M_done_8 ?_
    refine j_aload_n X jd_M_done_11 rfl rfl ?_
    refine j_get X jf_M_279 jk_12_60 js_215 (j_lt rfl hn) jd_M_done_12 ?_
    refine j_iconst (v := 1) X jd_M_done_15 (by decide) ?_
    refine j_isub X jd_M_done_16 ?_
    refine j_iald X js_252 (j_lt rfl hn) jd_M_done_17 h (fun _ h => ?_)
    refine j_iconst (v := 4) X jd_M_done_18 (by decide) ?_
    refine j_icmp_eq (tgt := 68) X jd_M_done_19 rfl h (fun h => ?_) (fun h => ?_)
    · exact j_vret X rfl jd_M_done_68 h
    · refine j_aload_n X jd_M_done_22 rfl rfl ?_
      refine j_getr X jf_M_128 jk_12_59 js_215 (j_lt rfl hn) (jp_215_59 hF) jd_M_done_23 ?_
      refine j_aload_n X jd_M_done_26 rfl rfl ?_
      refine j_get X jf_M_279 jk_12_60 js_215 (j_lt rfl hn) jd_M_done_27 ?_
      refine j_iconst (v := 1) X jd_M_done_30 (by decide) ?_
      refine j_isub X jd_M_done_31 ?_
      refine j_iald X js_252 (j_lt rfl hn) jd_M_done_32 h (fun _ h => ?_)
      refine j_callSi (As := [.int (I 252 (j_ix ((I 215 60) - 1)))]) (st := []) X h ⟨jqc_M_tight, jqs_M_tight, jqn_M⟩ jlm_M_282 jh_M_tight.2 rfl (by decide) (by decide) (Nat.le_of_ble_eq_true rfl) ⟨Nat.zero_le _, Nat.zero_le _⟩ (fun v0 I0 h => k_M_tight (r := (v0, I0)) hF hn h) jd_M_done_33 rfl (fun v1 I2 h => ?_)
      refine j_iload_n X jd_M_done_36 rfl rfl ?_
      refine j_icmp_lt (tgt := 68) X jd_M_done_37 rfl h (fun h => ?_) (fun h => ?_)
      · exact j_vret X rfl jd_M_done_68 h
      · refine j_aload_n X jd_M_done_40 rfl rfl ?_
        refine j_dup X jd_M_done_41 rfl ?_
        refine j_get X jf_M_279 jk_12_60 js_215 (j_lt rfl hn) jd_M_done_42 ?_
        refine j_iconst (v := 1) X jd_M_done_45 (by decide) ?_
        refine j_isub X jd_M_done_46 ?_
        refine j_puti X jt_M jto_M jn_M jf_M_279 jk_12_60 js_215 (j_lt rfl hn) (Or.inl rfl) rfl jd_M_done_47 ?_
        refine j_mem h (fun I3 h => ?_)
        refine j_aload_n X jd_M_done_50 rfl rfl ?_
        refine j_iload_n X jd_M_done_51 rfl rfl ?_
        refine j_aload_n X jd_M_done_52 rfl rfl ?_
        refine j_getr X jf_M_128 jk_12_59 js_215 (j_lt rfl hn) (jp_215_59 hF) jd_M_done_53 ?_
        refine j_aload_n X jd_M_done_56 rfl rfl ?_
        refine j_get X jf_M_279 jk_12_60 js_215 (j_lt rfl hn) jd_M_done_57 ?_
        refine j_iald X js_252 (j_lt rfl hn) jd_M_done_60 h (fun _ h => ?_)
        refine j_iconst (v := 0) X jd_M_done_61 (by decide) ?_
        refine j_callVv (As := [.int x1, .int (I3 252 (j_ix (I3 215 60))), .int 0]) (st := []) (c0 := 215) X h jc_M js_215 (j_lt rfl hn) ⟨jqc_M_lay, jqi_M_lay, jqv_M_lay, jqn_M⟩ jlm_M_285 jh_M_lay rfl (by decide) (by decide) (Nat.le_of_ble_eq_true rfl) ⟨Nat.zero_le _, Nat.zero_le _⟩ (fun v0 I0 h => k_M_lay (r := (v0, I0)) hF hn h) jd_M_done_62 rfl (fun v4 I5 h => ?_)
        refine j_goto (tgt := 0) X jd_M_done_65 rfl ?_
        exact hkb0 _ _ _ _ h
set_option maxRecDepth 100000 in
set_option maxHeartbeats 4000000 in
theorem k_M_done_0 {p : Program} {l : Launch} {e : Env} {R : Room} {s : State} {m : MethodId} {args : Array Value} {below : List Frame} {meth : Method} {c : Code} {g : j_G} {b n : Nat} {P : j_R} {F : Nat} (hF : j_Fx 0 260 P) (hn : 260 ≤ n) (X : j_X p R s m args meth c g b 1 jb_M_done 3 "PleasureGardenModel" none)  {x1 : Int32} {x2 : Int32} {I : j_M} {r : Int32 × j_M} (h : f_M_done_0 F x1 x2 I = some r) : j_W p l e R s m args below meth c 3 g b n 0 0 (j_Qv g b n P below args s r) I P 0 [some (.ref (b + 215)), some (.int x1), some (.int x2)] [] := by
  refine j_loop (G := fun (q : Int32 × Int32 × j_M) (r : Int32 × j_M) => j_W p l e R s m args below meth c 3 g b n 0 0 (j_Qv g b n P below args s r) q.2.2 P 0 [some (.ref (b + 215)), some (.int (q.1)), some (.int (q.2.1))] []) ?_ F (x1, x2, I) r h
  intro again hrec0 q r h
  exact k_M_done_0b hF hn X (fun x1 x2 I r h => hrec0 (x1, x2, I) r h)  h
set_option maxRecDepth 100000 in
set_option maxHeartbeats 4000000 in
theorem k_M_done {l : Launch} {g : j_G} {b n : Nat} {P : j_R} {F : Nat} (hF : j_Fx 0 260 P) (hn : 260 ≤ n) {x1 : Int32} {x2 : Int32} {I : j_M} {r : Int32 × j_M}  (h : f_M_done F x1 x2 I = some r) : j_Met l g b n P 1 jy_M_done jb_M_done 3 none [.ref (b + 215), .int x1, .int x2] I r.2 none := by
  unfold f_M_done at h
  refine j_enter (plainFor_of_name (by decide)) (Nat.le_of_ble_eq_true rfl) [some (.ref (b + 215)), some (.int x1), some (.int x2)] rfl ?_
  intro p e R s m args below meth c X0 hnm hRc hRs
  have X : j_X p R s m args meth c g b 1 jb_M_done 3 "PleasureGardenModel" none := X0
  clear X0
  exact k_M_done_0 hF hn X h
-- PleasureGardenModel.operand(I)Z
theorem jd_M_operand_0 : decode jb_M_operand 0 = .ok (.aload_n 0, 1) := by decide +kernel
theorem jd_M_operand_1 : decode jb_M_operand 1 = .ok (.getfield 107, 3) := by decide +kernel
theorem jd_M_operand_4 : decode jb_M_operand 4 = .ok (.aload_n 0, 1) := by decide +kernel
theorem jd_M_operand_5 : decode jb_M_operand 5 = .ok (.getfield 288, 3) := by decide +kernel
theorem jd_M_operand_8 : decode jb_M_operand 8 = .ok (.baload, 1) := by decide +kernel
theorem jd_M_operand_9 : decode jb_M_operand 9 = .ok (.istore_n 2, 1) := by decide +kernel
theorem jd_M_operand_10 : decode jb_M_operand 10 = .ok (.iload_n 2, 1) := by decide +kernel
theorem jd_M_operand_11 : decode jb_M_operand 11 = .ok (.bipush 40, 2) := by decide +kernel
theorem jd_M_operand_13 : decode jb_M_operand 13 = .ok (.if_icmp .ne 46, 3) := by decide +kernel
theorem jd_M_operand_16 : decode jb_M_operand 16 = .ok (.aload_n 0, 1) := by decide +kernel
theorem jd_M_operand_17 : decode jb_M_operand 17 = .ok (.invokevirtual 291, 3) := by decide +kernel
theorem jd_M_operand_20 : decode jb_M_operand 20 = .ok (.bipush 8, 2) := by decide +kernel
theorem jd_M_operand_22 : decode jb_M_operand 22 = .ok (.if_icmp .ne 5, 3) := by decide +kernel
theorem jd_M_operand_25 : decode jb_M_operand 25 = .ok (.iconst 0, 1) := by decide +kernel
theorem jd_M_operand_26 : decode jb_M_operand 26 = .ok (.ireturn, 1) := by decide +kernel
theorem jd_M_operand_27 : decode jb_M_operand 27 = .ok (.aload_n 0, 1) := by decide +kernel
theorem jd_M_operand_28 : decode jb_M_operand 28 = .ok (.getfield 128, 3) := by decide +kernel
theorem jd_M_operand_31 : decode jb_M_operand 31 = .ok (.aload_n 0, 1) := by decide +kernel
theorem jd_M_operand_32 : decode jb_M_operand 32 = .ok (.getfield 279, 3) := by decide +kernel
theorem jd_M_operand_35 : decode jb_M_operand 35 = .ok (.iconst 4, 1) := by decide +kernel
theorem jd_M_operand_36 : decode jb_M_operand 36 = .ok (.iastore, 1) := by decide +kernel
theorem jd_M_operand_37 : decode jb_M_operand 37 = .ok (.aload_n 0, 1) := by decide +kernel
theorem jd_M_operand_38 : decode jb_M_operand 38 = .ok (.dup, 1) := by decide +kernel
theorem jd_M_operand_39 : decode jb_M_operand 39 = .ok (.getfield 279, 3) := by decide +kernel
theorem jd_M_operand_42 : decode jb_M_operand 42 = .ok (.iconst 1, 1) := by decide +kernel
theorem jd_M_operand_43 : decode jb_M_operand 43 = .ok (.iadd, 1) := by decide +kernel
theorem jd_M_operand_44 : decode jb_M_operand 44 = .ok (.putfield 279, 3) := by decide +kernel
theorem jd_M_operand_47 : decode jb_M_operand 47 = .ok (.aload_n 0, 1) := by decide +kernel
theorem jd_M_operand_48 : decode jb_M_operand 48 = .ok (.dup, 1) := by decide +kernel
theorem jd_M_operand_49 : decode jb_M_operand 49 = .ok (.getfield 288, 3) := by decide +kernel
theorem jd_M_operand_52 : decode jb_M_operand 52 = .ok (.iconst 1, 1) := by decide +kernel
theorem jd_M_operand_53 : decode jb_M_operand 53 = .ok (.iadd, 1) := by decide +kernel
theorem jd_M_operand_54 : decode jb_M_operand 54 = .ok (.putfield 288, 3) := by decide +kernel
theorem jd_M_operand_57 : decode jb_M_operand 57 = .ok (.iconst 1, 1) := by decide +kernel
theorem jd_M_operand_58 : decode jb_M_operand 58 = .ok (.ireturn, 1) := by decide +kernel
theorem jd_M_operand_59 : decode jb_M_operand 59 = .ok (.iload_n 2, 1) := by decide +kernel
theorem jd_M_operand_60 : decode jb_M_operand 60 = .ok (.invokestatic 295, 3) := by decide +kernel
theorem jd_M_operand_63 : decode jb_M_operand 63 = .ok (.ifCond .eq 25, 3) := by decide +kernel
theorem jd_M_operand_66 : decode jb_M_operand 66 = .ok (.aload_n 0, 1) := by decide +kernel
theorem jd_M_operand_67 : decode jb_M_operand 67 = .ok (.iload_n 1, 1) := by decide +kernel
theorem jd_M_operand_68 : decode jb_M_operand 68 = .ok (.bipush 100, 2) := by decide +kernel
theorem jd_M_operand_70 : decode jb_M_operand 70 = .ok (.iload_n 2, 1) := by decide +kernel
theorem jd_M_operand_71 : decode jb_M_operand 71 = .ok (.iadd, 1) := by decide +kernel
theorem jd_M_operand_72 : decode jb_M_operand 72 = .ok (.iconst 0, 1) := by decide +kernel
theorem jd_M_operand_73 : decode jb_M_operand 73 = .ok (.invokevirtual 285, 3) := by decide +kernel
theorem jd_M_operand_76 : decode jb_M_operand 76 = .ok (.aload_n 0, 1) := by decide +kernel
theorem jd_M_operand_77 : decode jb_M_operand 77 = .ok (.dup, 1) := by decide +kernel
theorem jd_M_operand_78 : decode jb_M_operand 78 = .ok (.getfield 288, 3) := by decide +kernel
theorem jd_M_operand_81 : decode jb_M_operand 81 = .ok (.iconst 1, 1) := by decide +kernel
theorem jd_M_operand_82 : decode jb_M_operand 82 = .ok (.iadd, 1) := by decide +kernel
theorem jd_M_operand_83 : decode jb_M_operand 83 = .ok (.putfield 288, 3) := by decide +kernel
theorem jd_M_operand_86 : decode jb_M_operand 86 = .ok (.iconst 1, 1) := by decide +kernel
theorem jd_M_operand_87 : decode jb_M_operand 87 = .ok (.ireturn, 1) := by decide +kernel
theorem jd_M_operand_88 : decode jb_M_operand 88 = .ok (.iconst 0, 1) := by decide +kernel
theorem jd_M_operand_89 : decode jb_M_operand 89 = .ok (.istore_n 3, 1) := by decide +kernel
theorem jd_M_operand_90 : decode jb_M_operand 90 = .ok (.iconst 0, 1) := by decide +kernel
theorem jd_M_operand_91 : decode jb_M_operand 91 = .ok (.istore 4, 2) := by decide +kernel
theorem jd_M_operand_93 : decode jb_M_operand 93 = .ok (.aload_n 0, 1) := by decide +kernel
theorem jd_M_operand_94 : decode jb_M_operand 94 = .ok (.getfield 288, 3) := by decide +kernel
theorem jd_M_operand_97 : decode jb_M_operand 97 = .ok (.aload_n 0, 1) := by decide +kernel
theorem jd_M_operand_98 : decode jb_M_operand 98 = .ok (.getfield 273, 3) := by decide +kernel
theorem jd_M_operand_101 : decode jb_M_operand 101 = .ok (.if_icmp .ge 63, 3) := by decide +kernel
theorem jd_M_operand_104 : decode jb_M_operand 104 = .ok (.aload_n 0, 1) := by decide +kernel
theorem jd_M_operand_105 : decode jb_M_operand 105 = .ok (.getfield 107, 3) := by decide +kernel
theorem jd_M_operand_108 : decode jb_M_operand 108 = .ok (.aload_n 0, 1) := by decide +kernel
theorem jd_M_operand_109 : decode jb_M_operand 109 = .ok (.getfield 288, 3) := by decide +kernel
theorem jd_M_operand_112 : decode jb_M_operand 112 = .ok (.baload, 1) := by decide +kernel
theorem jd_M_operand_113 : decode jb_M_operand 113 = .ok (.bipush 48, 2) := by decide +kernel
theorem jd_M_operand_115 : decode jb_M_operand 115 = .ok (.bipush 57, 2) := by decide +kernel
theorem jd_M_operand_117 : decode jb_M_operand 117 = .ok (.invokestatic 158, 3) := by decide +kernel
theorem jd_M_operand_120 : decode jb_M_operand 120 = .ok (.ifCond .eq 44, 3) := by decide +kernel
theorem jd_M_operand_123 : decode jb_M_operand 123 = .ok (.iload_n 3, 1) := by decide +kernel
theorem jd_M_operand_124 : decode jb_M_operand 124 = .ok (.iconst 5, 1) := by decide +kernel
theorem jd_M_operand_125 : decode jb_M_operand 125 = .ok (.if_icmp .ge 39, 3) := by decide +kernel
theorem jd_M_operand_128 : decode jb_M_operand 128 = .ok (.bipush 10, 2) := by decide +kernel
theorem jd_M_operand_130 : decode jb_M_operand 130 = .ok (.iload 4, 2) := by decide +kernel
theorem jd_M_operand_132 : decode jb_M_operand 132 = .ok (.imul, 1) := by decide +kernel
theorem jd_M_operand_133 : decode jb_M_operand 133 = .ok (.aload_n 0, 1) := by decide +kernel
theorem jd_M_operand_134 : decode jb_M_operand 134 = .ok (.getfield 107, 3) := by decide +kernel
theorem jd_M_operand_137 : decode jb_M_operand 137 = .ok (.aload_n 0, 1) := by decide +kernel
theorem jd_M_operand_138 : decode jb_M_operand 138 = .ok (.getfield 288, 3) := by decide +kernel
theorem jd_M_operand_141 : decode jb_M_operand 141 = .ok (.baload, 1) := by decide +kernel
theorem jd_M_operand_142 : decode jb_M_operand 142 = .ok (.iadd, 1) := by decide +kernel
theorem jd_M_operand_143 : decode jb_M_operand 143 = .ok (.bipush 48, 2) := by decide +kernel
theorem jd_M_operand_145 : decode jb_M_operand 145 = .ok (.isub, 1) := by decide +kernel
theorem jd_M_operand_146 : decode jb_M_operand 146 = .ok (.istore 4, 2) := by decide +kernel
theorem jd_M_operand_148 : decode jb_M_operand 148 = .ok (.iinc 3 1, 3) := by decide +kernel
theorem jd_M_operand_151 : decode jb_M_operand 151 = .ok (.aload_n 0, 1) := by decide +kernel
theorem jd_M_operand_152 : decode jb_M_operand 152 = .ok (.dup, 1) := by decide +kernel
theorem jd_M_operand_153 : decode jb_M_operand 153 = .ok (.getfield 288, 3) := by decide +kernel
theorem jd_M_operand_156 : decode jb_M_operand 156 = .ok (.iconst 1, 1) := by decide +kernel
theorem jd_M_operand_157 : decode jb_M_operand 157 = .ok (.iadd, 1) := by decide +kernel
theorem jd_M_operand_158 : decode jb_M_operand 158 = .ok (.putfield 288, 3) := by decide +kernel
theorem jd_M_operand_161 : decode jb_M_operand 161 = .ok (.goto (-68), 3) := by decide +kernel
theorem jd_M_operand_164 : decode jb_M_operand 164 = .ok (.iload_n 3, 1) := by decide +kernel
theorem jd_M_operand_165 : decode jb_M_operand 165 = .ok (.ifCond .eq 38, 3) := by decide +kernel
theorem jd_M_operand_168 : decode jb_M_operand 168 = .ok (.iload_n 3, 1) := by decide +kernel
theorem jd_M_operand_169 : decode jb_M_operand 169 = .ok (.iconst 5, 1) := by decide +kernel
theorem jd_M_operand_170 : decode jb_M_operand 170 = .ok (.if_icmp .ne 35, 3) := by decide +kernel
theorem jd_M_operand_173 : decode jb_M_operand 173 = .ok (.aload_n 0, 1) := by decide +kernel
theorem jd_M_operand_174 : decode jb_M_operand 174 = .ok (.getfield 288, 3) := by decide +kernel
theorem jd_M_operand_177 : decode jb_M_operand 177 = .ok (.aload_n 0, 1) := by decide +kernel
theorem jd_M_operand_178 : decode jb_M_operand 178 = .ok (.getfield 273, 3) := by decide +kernel
theorem jd_M_operand_181 : decode jb_M_operand 181 = .ok (.if_icmp .ge 24, 3) := by decide +kernel
theorem jd_M_operand_184 : decode jb_M_operand 184 = .ok (.aload_n 0, 1) := by decide +kernel
theorem jd_M_operand_185 : decode jb_M_operand 185 = .ok (.getfield 107, 3) := by decide +kernel
theorem jd_M_operand_188 : decode jb_M_operand 188 = .ok (.aload_n 0, 1) := by decide +kernel
theorem jd_M_operand_189 : decode jb_M_operand 189 = .ok (.getfield 288, 3) := by decide +kernel
theorem jd_M_operand_192 : decode jb_M_operand 192 = .ok (.baload, 1) := by decide +kernel
theorem jd_M_operand_193 : decode jb_M_operand 193 = .ok (.bipush 48, 2) := by decide +kernel
theorem jd_M_operand_195 : decode jb_M_operand 195 = .ok (.bipush 57, 2) := by decide +kernel
theorem jd_M_operand_197 : decode jb_M_operand 197 = .ok (.invokestatic 158, 3) := by decide +kernel
theorem jd_M_operand_200 : decode jb_M_operand 200 = .ok (.ifCond .eq 5, 3) := by decide +kernel
theorem jd_M_operand_203 : decode jb_M_operand 203 = .ok (.iconst 0, 1) := by decide +kernel
theorem jd_M_operand_204 : decode jb_M_operand 204 = .ok (.ireturn, 1) := by decide +kernel
theorem jd_M_operand_205 : decode jb_M_operand 205 = .ok (.aload_n 0, 1) := by decide +kernel
theorem jd_M_operand_206 : decode jb_M_operand 206 = .ok (.iload_n 1, 1) := by decide +kernel
theorem jd_M_operand_207 : decode jb_M_operand 207 = .ok (.iconst 1, 1) := by decide +kernel
theorem jd_M_operand_208 : decode jb_M_operand 208 = .ok (.iload 4, 2) := by decide +kernel
theorem jd_M_operand_210 : decode jb_M_operand 210 = .ok (.invokevirtual 285, 3) := by decide +kernel
theorem jd_M_operand_213 : decode jb_M_operand 213 = .ok (.iconst 1, 1) := by decide +kernel
theorem jd_M_operand_214 : decode jb_M_operand 214 = .ok (.ireturn, 1) := by decide +kernel
def f_M_operand_205 (F : Nat)  (x1 : Int32) (x4 : Int32) (I : j_M) : Option (Int32 × j_M) := j_bd (f_M_lay F x1 1 x4 I) (fun v1 I2 => some (1, I2))
def f_M_operand_164 (F : Nat)  (x1 : Int32) (x3 : Int32) (x4 : Int32) (I : j_M) : Option (Int32 × j_M) := (if x3 = 0 then some (0, I) else (if x3 = 5 then (if (I 215 51) ≤ (I 215 62) then f_M_operand_205 F x1 x4 I else (if j_ok (I 215 62) 120 = true then j_bd (f_M_among F (I 245 (j_ix (I 215 62))) 48 57 I) (fun v3 I4 => (if v3 = 0 then f_M_operand_205 F x1 x4 I4 else some (0, I4))) else none)) else f_M_operand_205 F x1 x4 I))
def f_M_operand_93b (F : Nat) (kb93 : Int32 → Int32 → Int32 → j_M → Option (Int32 × j_M)) (x1 : Int32) (x3 : Int32) (x4 : Int32) (I : j_M) : Option (Int32 × j_M) := (if (I 215 51) ≤ (I 215 62) then f_M_operand_164 F x1 x3 x4 I else (if j_ok (I 215 62) 120 = true then j_bd (f_M_among F (I 245 (j_ix (I 215 62))) 48 57 I) (fun v5 I6 => (if v5 = 0 then f_M_operand_164 F x1 x3 x4 I6 else (if 5 ≤ x3 then f_M_operand_164 F x1 x3 x4 I6 else (if j_ok (I6 215 62) 120 = true then j_let (((10 * x4) + (I6 245 (j_ix (I6 215 62)))) - 48) (fun v7 => j_let (x3 + 1) (fun v8 => j_let (j_wr I6 215 62 ((I6 215 62) + 1)) (fun I9 => kb93 x1 v8 v7 I9))) else none)))) else none))
def f_M_operand_93 (F : Nat)  (x1 : Int32) (x3 : Int32) (x4 : Int32) (I : j_M) : Option (Int32 × j_M) := j_it (fun (again : Int32 × Int32 × Int32 × j_M → Option (Int32 × j_M)) (q : Int32 × Int32 × Int32 × j_M) => f_M_operand_93b F  (fun x1 x3 x4 I => again (x1, x3, x4, I))  q.1 q.2.1 q.2.2.1 q.2.2.2) F (x1, x3, x4, I)
def f_M_operand (F : Nat) (x1 : Int32) (I : j_M) : Option (Int32 × j_M) := (if j_ok (I 215 62) 120 = true then j_let (I 245 (j_ix (I 215 62))) (fun v10 => (if v10 = 40 then j_bd (f_M_opened F I) (fun v11 I12 => (if v11 = 8 then some (0, I12) else (if j_ok (I12 215 60) 130 = true then j_let (j_wr I12 252 (j_ix (I12 215 60)) 4) (fun I13 => j_let (j_wr I13 215 60 ((I13 215 60) + 1)) (fun I14 => j_let (j_wr I14 215 62 ((I14 215 62) + 1)) (fun I15 => some (1, I15)))) else none))) else j_bd (f_M_isName F v10 I) (fun v16 I17 => (if v16 = 0 then f_M_operand_93 F x1 0 0 I17 else j_bd (f_M_lay F x1 (100 + v10) 0 I17) (fun v18 I19 => j_let (j_wr I19 215 62 ((I19 215 62) + 1)) (fun I20 => some (1, I20))))))) else none)
set_option maxRecDepth 100000 in
set_option maxHeartbeats 4000000 in
theorem k_M_operand_205 {p : Program} {l : Launch} {e : Env} {R : Room} {s : State} {m : MethodId} {args : Array Value} {below : List Frame} {meth : Method} {c : Code} {g : j_G} {b n : Nat} {P : j_R} {F : Nat} (hF : j_Fx 0 260 P) (hn : 260 ≤ n) (X : j_X p R s m args meth c g b 1 jb_M_operand 5 "PleasureGardenModel" (some .boolean))  {x1 : Int32} {x4 : Int32} {I : j_M} {r : Int32 × j_M}  (h : f_M_operand_205 F x1 x4 I = some r) : j_W p l e R s m args below meth c 5 g b n 0 0 (j_Qi g b n P below args s r) I P 205 [some (.ref (b + 215)), some (.int x1), none, none, some (.int x4)] [] := by
  unfold f_M_operand_205 at h
  refine j_aload_n X jd_M_operand_205 rfl rfl ?_
  refine j_iload_n X jd_M_operand_206 rfl rfl ?_
  refine j_iconst (v := 1) X jd_M_operand_207 (by decide) ?_
  refine j_iload X jd_M_operand_208 rfl ?_
  refine j_callVv (As := [.int x1, .int 1, .int x4]) (st := []) (c0 := 215) X h jc_M js_215 (j_lt rfl hn) ⟨jqc_M_lay, jqi_M_lay, jqv_M_lay, jqn_M⟩ jlm_M_285 jh_M_lay rfl (by decide) (by decide) (Nat.le_of_ble_eq_true rfl) ⟨Nat.zero_le _, Nat.zero_le _⟩ (fun v0 I0 h => k_M_lay (r := (v0, I0)) hF hn h) jd_M_operand_210 rfl (fun v1 I2 h => ?_)
  refine j_iconst (v := 1) X jd_M_operand_213 (by decide) ?_
  exact j_zret X rfl (by decide) jd_M_operand_214 h
set_option maxRecDepth 100000 in
set_option maxHeartbeats 4000000 in
theorem k_M_operand_164 {p : Program} {l : Launch} {e : Env} {R : Room} {s : State} {m : MethodId} {args : Array Value} {below : List Frame} {meth : Method} {c : Code} {g : j_G} {b n : Nat} {P : j_R} {F : Nat} (hF : j_Fx 0 260 P) (hn : 260 ≤ n) (X : j_X p R s m args meth c g b 1 jb_M_operand 5 "PleasureGardenModel" (some .boolean))  {x1 : Int32} {x3 : Int32} {x4 : Int32} {I : j_M} {r : Int32 × j_M}  (h : f_M_operand_164 F x1 x3 x4 I = some r) : j_W p l e R s m args below meth c 5 g b n 0 0 (j_Qi g b n P below args s r) I P 164 [some (.ref (b + 215)), some (.int x1), none, some (.int x3), some (.int x4)] [] := by
  unfold f_M_operand_164 at h
  refine j_iload_n X jd_M_operand_164 rfl rfl ?_
  refine j_if_eq (tgt := 203) X jd_M_operand_165 rfl h (fun h => ?_) (fun h => ?_)
  · refine j_iconst (v := 0) X jd_M_operand_203 (by decide) ?_
    exact j_zret X rfl (by decide) jd_M_operand_204 h
  · refine j_iload_n X jd_M_operand_168 rfl rfl ?_
    refine j_iconst (v := 5) X jd_M_operand_169 (by decide) ?_
    refine j_icmp_ne (tgt := 205) X jd_M_operand_170 rfl h (fun h => ?_) (fun h => ?_)
    · refine j_aload_n X jd_M_operand_173 rfl rfl ?_
      refine j_get X jf_M_288 jk_12_62 js_215 (j_lt rfl hn) jd_M_operand_174 ?_
      refine j_aload_n X jd_M_operand_177 rfl rfl ?_
      refine j_get X jf_M_273 jk_12_51 js_215 (j_lt rfl hn) jd_M_operand_178 ?_
      refine j_icmp_ge (tgt := 205) X jd_M_operand_181 rfl h (fun h => ?_) (fun h => ?_)
      · refine j_sub [true, true, false, false, true] (lv' := [some (.ref (b + 215)), some (.int x1), none, none, some (.int x4)]) rfl ?_
        exact k_M_operand_205 hF hn X h
      · refine j_aload_n X jd_M_operand_184 rfl rfl ?_
        refine j_getr X jf_M_107 jk_12_50 js_215 (j_lt rfl hn) (jp_215_50 hF) jd_M_operand_185 ?_
        refine j_aload_n X jd_M_operand_188 rfl rfl ?_
        refine j_get X jf_M_288 jk_12_62 js_215 (j_lt rfl hn) jd_M_operand_189 ?_
        refine j_bald X js_245 (j_lt rfl hn) jd_M_operand_192 h (fun _ h => ?_)
        refine j_bipush (v := 48) X jd_M_operand_193 (by decide) ?_
        refine j_bipush (v := 57) X jd_M_operand_195 (by decide) ?_
        refine j_callSi (As := [.int (I 245 (j_ix (I 215 62))), .int 48, .int 57]) (st := []) X h ⟨jqc_M_among, jqs_M_among, jqn_M⟩ jlm_M_158 jh_M_among.2 rfl (by decide) (by decide) (Nat.le_of_ble_eq_true rfl) ⟨Nat.zero_le _, Nat.zero_le _⟩ (fun v0 I0 h => k_M_among (r := (v0, I0)) hF hn h) jd_M_operand_197 rfl (fun v3 I4 h => ?_)
        refine j_if_eq (tgt := 205) X jd_M_operand_200 rfl h (fun h => ?_) (fun h => ?_)
        · refine j_sub [true, true, false, false, true] (lv' := [some (.ref (b + 215)), some (.int x1), none, none, some (.int x4)]) rfl ?_
          exact k_M_operand_205 hF hn X h
        · refine j_iconst (v := 0) X jd_M_operand_203 (by decide) ?_
          exact j_zret X rfl (by decide) jd_M_operand_204 h
    · refine j_sub [true, true, false, false, true] (lv' := [some (.ref (b + 215)), some (.int x1), none, none, some (.int x4)]) rfl ?_
      exact k_M_operand_205 hF hn X h
set_option maxRecDepth 100000 in
set_option maxHeartbeats 4000000 in
theorem k_M_operand_93b {p : Program} {l : Launch} {e : Env} {R : Room} {s : State} {m : MethodId} {args : Array Value} {below : List Frame} {meth : Method} {c : Code} {g : j_G} {b n : Nat} {P : j_R} {F : Nat} (hF : j_Fx 0 260 P) (hn : 260 ≤ n) (X : j_X p R s m args meth c g b 1 jb_M_operand 5 "PleasureGardenModel" (some .boolean)) {kb93 : Int32 → Int32 → Int32 → j_M → Option (Int32 × j_M)} (hkb93 : ∀ (x1 : Int32) (x3 : Int32) (x4 : Int32) (I : j_M) (r : Int32 × j_M), kb93 x1 x3 x4 I = some r → j_W p l e R s m args below meth c 5 g b n 0 0 (j_Qi g b n P below args s r) I P 93 [some (.ref (b + 215)), some (.int x1), none, some (.int x3), some (.int x4)] []) {x1 : Int32} {x3 : Int32} {x4 : Int32} {I : j_M} {r : Int32 × j_M}  (h : f_M_operand_93b F kb93 x1 x3 x4 I = some r) : j_W p l e R s m args below meth c 5 g b n 0 0 (j_Qi g b n P below args s r) I P 93 [some (.ref (b + 215)), some (.int x1), none, some (.int x3), some (.int x4)] [] := by
  unfold f_M_operand_93b at h
  refine j_aload_n X jd_M_operand_93 rfl rfl ?_
  refine j_get X jf_M_288 jk_12_62 js_215 (j_lt rfl hn) jd_M_operand_94 ?_
  refine j_aload_n X jd_M_operand_97 rfl rfl ?_
  refine j_get X jf_M_273 jk_12_51 js_215 (j_lt rfl hn) jd_M_operand_98 ?_
  refine j_icmp_ge (tgt := 164) X jd_M_operand_101 rfl h (fun h => ?_) (fun h => ?_)
  · exact k_M_operand_164 hF hn X h
  · refine j_aload_n X jd_M_operand_104 rfl rfl ?_
    refine j_getr X jf_M_107 jk_12_50 js_215 (j_lt rfl hn) (jp_215_50 hF) jd_M_operand_105 ?_
    refine j_aload_n X jd_M_operand_108 rfl rfl ?_
    refine j_get X jf_M_288 jk_12_62 js_215 (j_lt rfl hn) jd_M_operand_109 ?_
    refine j_bald X js_245 (j_lt rfl hn) jd_M_operand_112 h (fun _ h => ?_)
    refine j_bipush (v := 48) X jd_M_operand_113 (by decide) ?_
    refine j_bipush (v := 57) X jd_M_operand_115 (by decide) ?_
    refine j_callSi (As := [.int (I 245 (j_ix (I 215 62))), .int 48, .int 57]) (st := []) X h ⟨jqc_M_among, jqs_M_among, jqn_M⟩ jlm_M_158 jh_M_among.2 rfl (by decide) (by decide) (Nat.le_of_ble_eq_true rfl) ⟨Nat.zero_le _, Nat.zero_le _⟩ (fun v0 I0 h => k_M_among (r := (v0, I0)) hF hn h) jd_M_operand_117 rfl (fun v5 I6 h => ?_)
    refine j_if_eq (tgt := 164) X jd_M_operand_120 rfl h (fun h => ?_) (fun h => ?_)
    · exact k_M_operand_164 hF hn X h
    · refine j_iload_n X jd_M_operand_123 rfl rfl ?_
      refine j_iconst (v := 5) X jd_M_operand_124 (by decide) ?_
      refine j_icmp_ge (tgt := 164) X jd_M_operand_125 rfl h (fun h => ?_) (fun h => ?_)
      · exact k_M_operand_164 hF hn X h
      · refine j_bipush (v := 10) X jd_M_operand_128 (by decide) ?_
        refine j_iload X jd_M_operand_130 rfl ?_
        refine j_imul X jd_M_operand_132 ?_
        refine j_aload_n X jd_M_operand_133 rfl rfl ?_
        refine j_getr X jf_M_107 jk_12_50 js_215 (j_lt rfl hn) (jp_215_50 hF) jd_M_operand_134 ?_
        refine j_aload_n X jd_M_operand_137 rfl rfl ?_
        refine j_get X jf_M_288 jk_12_62 js_215 (j_lt rfl hn) jd_M_operand_138 ?_
        refine j_bald X js_245 (j_lt rfl hn) jd_M_operand_141 h (fun _ h => ?_)
        refine j_iadd X jd_M_operand_142 ?_
        refine j_bipush (v := 48) X jd_M_operand_143 (by decide) ?_
        refine j_isub X jd_M_operand_145 ?_
        refine j_nm h (fun v7 h => ?_)
        refine j_istore (lv' := [some (.ref (b + 215)), some (.int x1), none, some (.int x3), some (.int v7)]) X jd_M_operand_146 (by decide) rfl ?_
        obtain ⟨v8, ev8, h⟩ := j_ex h
        refine j_iinc (v := v8) (lv' := [some (.ref (b + 215)), some (.int x1), none, some (.int v8), some (.int v7)]) X jd_M_operand_148 rfl (by rw [ev8]; rfl) (by decide) rfl ?_
        refine j_aload_n X jd_M_operand_151 rfl rfl ?_
        refine j_dup X jd_M_operand_152 rfl ?_
        refine j_get X jf_M_288 jk_12_62 js_215 (j_lt rfl hn) jd_M_operand_153 ?_
        refine j_iconst (v := 1) X jd_M_operand_156 (by decide) ?_
        refine j_iadd X jd_M_operand_157 ?_
        refine j_puti X jt_M jto_M jn_M jf_M_288 jk_12_62 js_215 (j_lt rfl hn) (Or.inl rfl) rfl jd_M_operand_158 ?_
        refine j_mem h (fun I9 h => ?_)
        refine j_goto (tgt := 93) X jd_M_operand_161 rfl ?_
        exact hkb93 _ _ _ _ _ h
set_option maxRecDepth 100000 in
set_option maxHeartbeats 4000000 in
theorem k_M_operand_93 {p : Program} {l : Launch} {e : Env} {R : Room} {s : State} {m : MethodId} {args : Array Value} {below : List Frame} {meth : Method} {c : Code} {g : j_G} {b n : Nat} {P : j_R} {F : Nat} (hF : j_Fx 0 260 P) (hn : 260 ≤ n) (X : j_X p R s m args meth c g b 1 jb_M_operand 5 "PleasureGardenModel" (some .boolean))  {x1 : Int32} {x3 : Int32} {x4 : Int32} {I : j_M} {r : Int32 × j_M} (h : f_M_operand_93 F x1 x3 x4 I = some r) : j_W p l e R s m args below meth c 5 g b n 0 0 (j_Qi g b n P below args s r) I P 93 [some (.ref (b + 215)), some (.int x1), none, some (.int x3), some (.int x4)] [] := by
  refine j_loop (G := fun (q : Int32 × Int32 × Int32 × j_M) (r : Int32 × j_M) => j_W p l e R s m args below meth c 5 g b n 0 0 (j_Qi g b n P below args s r) q.2.2.2 P 93 [some (.ref (b + 215)), some (.int (q.1)), none, some (.int (q.2.1)), some (.int (q.2.2.1))] []) ?_ F (x1, x3, x4, I) r h
  intro again hrec0 q r h
  exact k_M_operand_93b hF hn X (fun x1 x3 x4 I r h => hrec0 (x1, x3, x4, I) r h)  h
set_option maxRecDepth 100000 in
set_option maxHeartbeats 4000000 in
theorem k_M_operand {l : Launch} {g : j_G} {b n : Nat} {P : j_R} {F : Nat} (hF : j_Fx 0 260 P) (hn : 260 ≤ n) {x1 : Int32} {I : j_M} {r : Int32 × j_M}  (h : f_M_operand F x1 I = some r) : j_Met l g b n P 1 jy_M_operand jb_M_operand 5 (some .boolean) [.ref (b + 215), .int x1] I r.2 (some (.int r.1)) := by
  unfold f_M_operand at h
  refine j_enter (plainFor_of_name (by decide)) (Nat.le_of_ble_eq_true rfl) [some (.ref (b + 215)), some (.int x1), none, none, none] rfl ?_
  intro p e R s m args below meth c X0 hnm hRc hRs
  have X : j_X p R s m args meth c g b 1 jb_M_operand 5 "PleasureGardenModel" (some .boolean) := X0
  clear X0
  refine j_aload_n X jd_M_operand_0 rfl rfl ?_
  refine j_getr X jf_M_107 jk_12_50 js_215 (j_lt rfl hn) (jp_215_50 hF) jd_M_operand_1 ?_
  refine j_aload_n X jd_M_operand_4 rfl rfl ?_
  refine j_get X jf_M_288 jk_12_62 js_215 (j_lt rfl hn) jd_M_operand_5 ?_
  refine j_bald X js_245 (j_lt rfl hn) jd_M_operand_8 h (fun _ h => ?_)
  refine j_nm h (fun v10 h => ?_)
  refine j_istore_n (lv' := [some (.ref (b + 215)), some (.int x1), some (.int v10), none, none]) X jd_M_operand_9 rfl (by decide) rfl ?_
  refine j_iload_n X jd_M_operand_10 rfl rfl ?_
  refine j_bipush (v := 40) X jd_M_operand_11 (by decide) ?_
  refine j_icmp_ne (tgt := 59) X jd_M_operand_13 rfl h (fun h => ?_) (fun h => ?_)
  · refine j_aload_n X jd_M_operand_16 rfl rfl ?_
    refine j_callVi (As := []) (st := []) (c0 := 215) X h jc_M js_215 (j_lt rfl hn) ⟨jqc_M_opened, jqi_M_opened, jqv_M_opened, jqn_M⟩ jlm_M_291 jh_M_opened rfl (by decide) (by decide) (Nat.le_of_ble_eq_true rfl) ⟨Nat.zero_le _, Nat.zero_le _⟩ (fun v0 I0 h => k_M_opened (r := (v0, I0)) hF hn h) jd_M_operand_17 rfl (fun v11 I12 h => ?_)
    refine j_bipush (v := 8) X jd_M_operand_20 (by decide) ?_
    refine j_icmp_ne (tgt := 27) X jd_M_operand_22 rfl h (fun h => ?_) (fun h => ?_)
    · refine j_iconst (v := 0) X jd_M_operand_25 (by decide) ?_
      exact j_zret X rfl (by decide) jd_M_operand_26 h
    · refine j_aload_n X jd_M_operand_27 rfl rfl ?_
      refine j_getr X jf_M_128 jk_12_59 js_215 (j_lt rfl hn) (jp_215_59 hF) jd_M_operand_28 ?_
      refine j_aload_n X jd_M_operand_31 rfl rfl ?_
      refine j_get X jf_M_279 jk_12_60 js_215 (j_lt rfl hn) jd_M_operand_32 ?_
      refine j_iconst (v := 4) X jd_M_operand_35 (by decide) ?_
      refine j_iast X js_252 (j_lt rfl hn) jd_M_operand_36 h (fun h => ?_)
      refine j_mem h (fun I13 h => ?_)
      refine j_aload_n X jd_M_operand_37 rfl rfl ?_
      refine j_dup X jd_M_operand_38 rfl ?_
      refine j_get X jf_M_279 jk_12_60 js_215 (j_lt rfl hn) jd_M_operand_39 ?_
      refine j_iconst (v := 1) X jd_M_operand_42 (by decide) ?_
      refine j_iadd X jd_M_operand_43 ?_
      refine j_puti X jt_M jto_M jn_M jf_M_279 jk_12_60 js_215 (j_lt rfl hn) (Or.inl rfl) rfl jd_M_operand_44 ?_
      refine j_mem h (fun I14 h => ?_)
      refine j_aload_n X jd_M_operand_47 rfl rfl ?_
      refine j_dup X jd_M_operand_48 rfl ?_
      refine j_get X jf_M_288 jk_12_62 js_215 (j_lt rfl hn) jd_M_operand_49 ?_
      refine j_iconst (v := 1) X jd_M_operand_52 (by decide) ?_
      refine j_iadd X jd_M_operand_53 ?_
      refine j_puti X jt_M jto_M jn_M jf_M_288 jk_12_62 js_215 (j_lt rfl hn) (Or.inl rfl) rfl jd_M_operand_54 ?_
      refine j_mem h (fun I15 h => ?_)
      refine j_iconst (v := 1) X jd_M_operand_57 (by decide) ?_
      exact j_zret X rfl (by decide) jd_M_operand_58 h
  · refine j_iload_n X jd_M_operand_59 rfl rfl ?_
    refine j_callSi (As := [.int v10]) (st := []) X h ⟨jqc_M_isName, jqs_M_isName, jqn_M⟩ jlm_M_295 jh_M_isName.2 rfl (by decide) (by decide) (Nat.le_of_ble_eq_true rfl) ⟨Nat.zero_le _, Nat.zero_le _⟩ (fun v0 I0 h => k_M_isName (r := (v0, I0)) hF hn h) jd_M_operand_60 rfl (fun v16 I17 h => ?_)
    refine j_if_eq (tgt := 88) X jd_M_operand_63 rfl h (fun h => ?_) (fun h => ?_)
    · refine j_iconst (v := 0) X jd_M_operand_88 (by decide) ?_
      refine j_istore_n (lv' := [some (.ref (b + 215)), some (.int x1), some (.int v10), some (.int 0), none]) X jd_M_operand_89 rfl (by decide) rfl ?_
      refine j_iconst (v := 0) X jd_M_operand_90 (by decide) ?_
      refine j_istore (lv' := [some (.ref (b + 215)), some (.int x1), some (.int v10), some (.int 0), some (.int 0)]) X jd_M_operand_91 (by decide) rfl ?_
      refine j_sub [true, true, false, true, true] (lv' := [some (.ref (b + 215)), some (.int x1), none, some (.int 0), some (.int 0)]) rfl ?_
      exact k_M_operand_93 hF hn X h
    · refine j_aload_n X jd_M_operand_66 rfl rfl ?_
      refine j_iload_n X jd_M_operand_67 rfl rfl ?_
      refine j_bipush (v := 100) X jd_M_operand_68 (by decide) ?_
      refine j_iload_n X jd_M_operand_70 rfl rfl ?_
      refine j_iadd X jd_M_operand_71 ?_
      refine j_iconst (v := 0) X jd_M_operand_72 (by decide) ?_
      refine j_callVv (As := [.int x1, .int (100 + v10), .int 0]) (st := []) (c0 := 215) X h jc_M js_215 (j_lt rfl hn) ⟨jqc_M_lay, jqi_M_lay, jqv_M_lay, jqn_M⟩ jlm_M_285 jh_M_lay rfl (by decide) (by decide) (Nat.le_of_ble_eq_true rfl) ⟨Nat.zero_le _, Nat.zero_le _⟩ (fun v0 I0 h => k_M_lay (r := (v0, I0)) hF hn h) jd_M_operand_73 rfl (fun v18 I19 h => ?_)
      refine j_aload_n X jd_M_operand_76 rfl rfl ?_
      refine j_dup X jd_M_operand_77 rfl ?_
      refine j_get X jf_M_288 jk_12_62 js_215 (j_lt rfl hn) jd_M_operand_78 ?_
      refine j_iconst (v := 1) X jd_M_operand_81 (by decide) ?_
      refine j_iadd X jd_M_operand_82 ?_
      refine j_puti X jt_M jto_M jn_M jf_M_288 jk_12_62 js_215 (j_lt rfl hn) (Or.inl rfl) rfl jd_M_operand_83 ?_
      refine j_mem h (fun I20 h => ?_)
      refine j_iconst (v := 1) X jd_M_operand_86 (by decide) ?_
      exact j_zret X rfl (by decide) jd_M_operand_87 h
-- PleasureGardenModel.isNight(I)Z
theorem jd_M_isNight_0 : decode jb_M_isNight 0 = .ok (.iload_n 0, 1) := by decide +kernel
theorem jd_M_isNight_1 : decode jb_M_isNight 1 = .ok (.iconst 0, 1) := by decide +kernel
theorem jd_M_isNight_2 : decode jb_M_isNight 2 = .ok (.sipush 199, 3) := by decide +kernel
theorem jd_M_isNight_5 : decode jb_M_isNight 5 = .ok (.invokestatic 158, 3) := by decide +kernel
theorem jd_M_isNight_8 : decode jb_M_isNight 8 = .ok (.ireturn, 1) := by decide +kernel
def f_M_isNight (F : Nat) (x0 : Int32) (I : j_M) : Option (Int32 × j_M) := j_bd (f_M_among F x0 0 199 I) (fun v1 I2 => (if v1 &&& 1 = v1 then some (v1, I2) else none))
set_option maxRecDepth 100000 in
set_option maxHeartbeats 4000000 in
theorem k_M_isNight {l : Launch} {g : j_G} {b n : Nat} {P : j_R} {F : Nat} (hF : j_Fx 0 260 P) (hn : 260 ≤ n) {x0 : Int32} {I : j_M} {r : Int32 × j_M}  (h : f_M_isNight F x0 I = some r) : j_Met l g b n P 1 jy_M_isNight jb_M_isNight 1 (some .boolean) [.int x0] I r.2 (some (.int r.1)) := by
  unfold f_M_isNight at h
  refine j_enter (plainFor_of_name (by decide)) (Nat.le_of_ble_eq_true rfl) [some (.int x0)] rfl ?_
  intro p e R s m args below meth c X0 hnm hRc hRs
  have X : j_X p R s m args meth c g b 1 jb_M_isNight 1 "PleasureGardenModel" (some .boolean) := X0
  clear X0
  refine j_iload_n X jd_M_isNight_0 rfl rfl ?_
  refine j_iconst (v := 0) X jd_M_isNight_1 (by decide) ?_
  refine j_sipush (v := 199) X jd_M_isNight_2 (by decide) ?_
  refine j_callSi (As := [.int x0, .int 0, .int 199]) (st := []) X h ⟨jqc_M_among, jqs_M_among, jqn_M⟩ jlm_M_158 jh_M_among.2 rfl (by decide) (by decide) (Nat.le_of_ble_eq_true rfl) ⟨Nat.zero_le _, Nat.zero_le _⟩ (fun v0 I0 h => k_M_among (r := (v0, I0)) hF hn h) jd_M_isNight_5 rfl (fun v1 I2 h => ?_)
  refine j_guard h (fun hz h => ?_)
  exact j_zret X rfl hz jd_M_isNight_8 h
-- PleasureGardenModel.says(I)I
theorem jd_M_says_0 : decode jb_M_says 0 = .ok (.iconst 0, 1) := by decide +kernel
theorem jd_M_says_1 : decode jb_M_says 1 = .ok (.istore_n 2, 1) := by decide +kernel
theorem jd_M_says_2 : decode jb_M_says 2 = .ok (.iconst 0, 1) := by decide +kernel
theorem jd_M_says_3 : decode jb_M_says 3 = .ok (.istore_n 3, 1) := by decide +kernel
theorem jd_M_says_4 : decode jb_M_says 4 = .ok (.sipush 130, 3) := by decide +kernel
theorem jd_M_says_7 : decode jb_M_says 7 = .ok (.iload_n 1, 1) := by decide +kernel
theorem jd_M_says_8 : decode jb_M_says 8 = .ok (.imul, 1) := by decide +kernel
theorem jd_M_says_9 : decode jb_M_says 9 = .ok (.istore 4, 2) := by decide +kernel
theorem jd_M_says_11 : decode jb_M_says 11 = .ok (.iload 4, 2) := by decide +kernel
theorem jd_M_says_13 : decode jb_M_says 13 = .ok (.sipush 130, 3) := by decide +kernel
theorem jd_M_says_16 : decode jb_M_says 16 = .ok (.iload_n 1, 1) := by decide +kernel
theorem jd_M_says_17 : decode jb_M_says 17 = .ok (.imul, 1) := by decide +kernel
theorem jd_M_says_18 : decode jb_M_says 18 = .ok (.aload_n 0, 1) := by decide +kernel
theorem jd_M_says_19 : decode jb_M_says 19 = .ok (.getfield 119, 3) := by decide +kernel
theorem jd_M_says_22 : decode jb_M_says 22 = .ok (.iload_n 1, 1) := by decide +kernel
theorem jd_M_says_23 : decode jb_M_says 23 = .ok (.iaload, 1) := by decide +kernel
theorem jd_M_says_24 : decode jb_M_says 24 = .ok (.iadd, 1) := by decide +kernel
theorem jd_M_says_25 : decode jb_M_says 25 = .ok (.if_icmp .ge 149, 3) := by decide +kernel
theorem jd_M_says_28 : decode jb_M_says 28 = .ok (.aload_n 0, 1) := by decide +kernel
theorem jd_M_says_29 : decode jb_M_says 29 = .ok (.getfield 122, 3) := by decide +kernel
theorem jd_M_says_32 : decode jb_M_says 32 = .ok (.iload 4, 2) := by decide +kernel
theorem jd_M_says_34 : decode jb_M_says 34 = .ok (.iaload, 1) := by decide +kernel
theorem jd_M_says_35 : decode jb_M_says 35 = .ok (.istore 5, 2) := by decide +kernel
theorem jd_M_says_37 : decode jb_M_says 37 = .ok (.iload 5, 2) := by decide +kernel
theorem jd_M_says_39 : decode jb_M_says 39 = .ok (.iconst 3, 1) := by decide +kernel
theorem jd_M_says_40 : decode jb_M_says 40 = .ok (.if_icmp .ne 21, 3) := by decide +kernel
theorem jd_M_says_43 : decode jb_M_says 43 = .ok (.iload_n 3, 1) := by decide +kernel
theorem jd_M_says_44 : decode jb_M_says 44 = .ok (.ifCond .ne 10, 3) := by decide +kernel
theorem jd_M_says_47 : decode jb_M_says 47 = .ok (.aload_n 0, 1) := by decide +kernel
theorem jd_M_says_48 : decode jb_M_says 48 = .ok (.getfield 134, 3) := by decide +kernel
theorem jd_M_says_51 : decode jb_M_says 51 = .ok (.iconst 0, 1) := by decide +kernel
theorem jd_M_says_52 : decode jb_M_says 52 = .ok (.iaload, 1) := by decide +kernel
theorem jd_M_says_53 : decode jb_M_says 53 = .ok (.ireturn, 1) := by decide +kernel
theorem jd_M_says_54 : decode jb_M_says 54 = .ok (.iconst 0, 1) := by decide +kernel
theorem jd_M_says_55 : decode jb_M_says 55 = .ok (.istore_n 3, 1) := by decide +kernel
theorem jd_M_says_56 : decode jb_M_says 56 = .ok (.iconst 0, 1) := by decide +kernel
theorem jd_M_says_57 : decode jb_M_says 57 = .ok (.istore_n 2, 1) := by decide +kernel
theorem jd_M_says_58 : decode jb_M_says 58 = .ok (.goto 110, 3) := by decide +kernel
theorem jd_M_says_61 : decode jb_M_says 61 = .ok (.iload 5, 2) := by decide +kernel
theorem jd_M_says_63 : decode jb_M_says 63 = .ok (.iconst 2, 1) := by decide +kernel
theorem jd_M_says_64 : decode jb_M_says 64 = .ok (.if_icmp .ne 23, 3) := by decide +kernel
theorem jd_M_says_67 : decode jb_M_says 67 = .ok (.aload_n 0, 1) := by decide +kernel
theorem jd_M_says_68 : decode jb_M_says 68 = .ok (.getfield 134, 3) := by decide +kernel
theorem jd_M_says_71 : decode jb_M_says 71 = .ok (.iconst 0, 1) := by decide +kernel
theorem jd_M_says_72 : decode jb_M_says 72 = .ok (.iaload, 1) := by decide +kernel
theorem jd_M_says_73 : decode jb_M_says 73 = .ok (.ifCond .ne 7, 3) := by decide +kernel
theorem jd_M_says_76 : decode jb_M_says 76 = .ok (.iconst 1, 1) := by decide +kernel
theorem jd_M_says_77 : decode jb_M_says 77 = .ok (.goto 4, 3) := by decide +kernel
theorem jd_M_says_80 : decode jb_M_says 80 = .ok (.iconst 0, 1) := by decide +kernel
theorem jd_M_says_81 : decode jb_M_says 81 = .ok (.istore_n 3, 1) := by decide +kernel
theorem jd_M_says_82 : decode jb_M_says 82 = .ok (.iconst 0, 1) := by decide +kernel
theorem jd_M_says_83 : decode jb_M_says 83 = .ok (.istore_n 2, 1) := by decide +kernel
theorem jd_M_says_84 : decode jb_M_says 84 = .ok (.goto 84, 3) := by decide +kernel
theorem jd_M_says_87 : decode jb_M_says 87 = .ok (.iload 5, 2) := by decide +kernel
theorem jd_M_says_89 : decode jb_M_says 89 = .ok (.iconst 1, 1) := by decide +kernel
theorem jd_M_says_90 : decode jb_M_says 90 = .ok (.if_icmp .eq 10, 3) := by decide +kernel
theorem jd_M_says_93 : decode jb_M_says 93 = .ok (.iload 5, 2) := by decide +kernel
theorem jd_M_says_95 : decode jb_M_says 95 = .ok (.bipush 100, 2) := by decide +kernel
theorem jd_M_says_97 : decode jb_M_says 97 = .ok (.if_icmp .lt 41, 3) := by decide +kernel
theorem jd_M_says_100 : decode jb_M_says 100 = .ok (.aload_n 0, 1) := by decide +kernel
theorem jd_M_says_101 : decode jb_M_says 101 = .ok (.getfield 134, 3) := by decide +kernel
theorem jd_M_says_104 : decode jb_M_says 104 = .ok (.iload_n 2, 1) := by decide +kernel
theorem jd_M_says_105 : decode jb_M_says 105 = .ok (.iload 5, 2) := by decide +kernel
theorem jd_M_says_107 : decode jb_M_says 107 = .ok (.iconst 1, 1) := by decide +kernel
theorem jd_M_says_108 : decode jb_M_says 108 = .ok (.if_icmp .ne 13, 3) := by decide +kernel
theorem jd_M_says_111 : decode jb_M_says 111 = .ok (.aload_n 0, 1) := by decide +kernel
theorem jd_M_says_112 : decode jb_M_says 112 = .ok (.getfield 125, 3) := by decide +kernel
theorem jd_M_says_115 : decode jb_M_says 115 = .ok (.iload 4, 2) := by decide +kernel
theorem jd_M_says_117 : decode jb_M_says 117 = .ok (.iaload, 1) := by decide +kernel
theorem jd_M_says_118 : decode jb_M_says 118 = .ok (.goto 13, 3) := by decide +kernel
theorem jd_M_says_121 : decode jb_M_says 121 = .ok (.aload_n 0, 1) := by decide +kernel
theorem jd_M_says_122 : decode jb_M_says 122 = .ok (.getfield 131, 3) := by decide +kernel
theorem jd_M_says_125 : decode jb_M_says 125 = .ok (.iload 5, 2) := by decide +kernel
theorem jd_M_says_127 : decode jb_M_says 127 = .ok (.bipush 100, 2) := by decide +kernel
theorem jd_M_says_129 : decode jb_M_says 129 = .ok (.isub, 1) := by decide +kernel
theorem jd_M_says_130 : decode jb_M_says 130 = .ok (.iaload, 1) := by decide +kernel
theorem jd_M_says_131 : decode jb_M_says 131 = .ok (.iastore, 1) := by decide +kernel
theorem jd_M_says_132 : decode jb_M_says 132 = .ok (.iinc 2 1, 3) := by decide +kernel
theorem jd_M_says_135 : decode jb_M_says 135 = .ok (.goto 33, 3) := by decide +kernel
theorem jd_M_says_138 : decode jb_M_says 138 = .ok (.iinc 2 (-1), 3) := by decide +kernel
theorem jd_M_says_141 : decode jb_M_says 141 = .ok (.aload_n 0, 1) := by decide +kernel
theorem jd_M_says_142 : decode jb_M_says 142 = .ok (.getfield 134, 3) := by decide +kernel
theorem jd_M_says_145 : decode jb_M_says 145 = .ok (.iload_n 2, 1) := by decide +kernel
theorem jd_M_says_146 : decode jb_M_says 146 = .ok (.iconst 1, 1) := by decide +kernel
theorem jd_M_says_147 : decode jb_M_says 147 = .ok (.isub, 1) := by decide +kernel
theorem jd_M_says_148 : decode jb_M_says 148 = .ok (.iload 5, 2) := by decide +kernel
theorem jd_M_says_150 : decode jb_M_says 150 = .ok (.aload_n 0, 1) := by decide +kernel
theorem jd_M_says_151 : decode jb_M_says 151 = .ok (.getfield 134, 3) := by decide +kernel
theorem jd_M_says_154 : decode jb_M_says 154 = .ok (.iload_n 2, 1) := by decide +kernel
theorem jd_M_says_155 : decode jb_M_says 155 = .ok (.iconst 1, 1) := by decide +kernel
theorem jd_M_says_156 : decode jb_M_says 156 = .ok (.isub, 1) := by decide +kernel
theorem jd_M_says_157 : decode jb_M_says 157 = .ok (.iaload, 1) := by decide +kernel
theorem jd_M_says_158 : decode jb_M_says 158 = .ok (.aload_n 0, 1) := by decide +kernel
theorem jd_M_says_159 : decode jb_M_says 159 = .ok (.getfield 134, 3) := by decide +kernel
theorem jd_M_says_162 : decode jb_M_says 162 = .ok (.iload_n 2, 1) := by decide +kernel
theorem jd_M_says_163 : decode jb_M_says 163 = .ok (.iaload, 1) := by decide +kernel
theorem jd_M_says_164 : decode jb_M_says 164 = .ok (.invokestatic 322, 3) := by decide +kernel
theorem jd_M_says_167 : decode jb_M_says 167 = .ok (.iastore, 1) := by decide +kernel
theorem jd_M_says_168 : decode jb_M_says 168 = .ok (.iinc 4 1, 3) := by decide +kernel
theorem jd_M_says_171 : decode jb_M_says 171 = .ok (.goto (-160), 3) := by decide +kernel
theorem jd_M_says_174 : decode jb_M_says 174 = .ok (.iconst 0, 1) := by decide +kernel
theorem jd_M_says_175 : decode jb_M_says 175 = .ok (.ireturn, 1) := by decide +kernel
def f_M_says_168 (F : Nat) (kb11 : Int32 → Int32 → Int32 → Int32 → j_M → Option (Int32 × j_M)) (x1 : Int32) (x2 : Int32) (x3 : Int32) (x4 : Int32) (I : j_M) : Option (Int32 × j_M) := j_let (x4 + 1) (fun v1 => kb11 x1 x2 x3 v1 I)
def f_M_says_131 (F : Nat) (kb11 : Int32 → Int32 → Int32 → Int32 → j_M → Option (Int32 × j_M)) (x1 : Int32) (x2 : Int32) (x3 : Int32) (x4 : Int32) (s1 : Int32) (s2 : Int32) (I : j_M) : Option (Int32 × j_M) := (if j_ok s1 130 = true then j_let (j_wr I 254 (j_ix s1) s2) (fun I2 => j_let (x2 + 1) (fun v3 => f_M_says_168 F kb11 x1 v3 x3 x4 I2)) else none)
def f_M_says_100 (F : Nat) (kb11 : Int32 → Int32 → Int32 → Int32 → j_M → Option (Int32 × j_M)) (x1 : Int32) (x2 : Int32) (x3 : Int32) (x4 : Int32) (x5 : Int32) (I : j_M) : Option (Int32 × j_M) := (if x5 = 1 then (if j_ok x4 3900 = true then f_M_says_131 F kb11 x1 x2 x3 x4 x2 (I 251 (j_ix x4)) I else none) else (if j_ok (x5 - 100) 128 = true then f_M_says_131 F kb11 x1 x2 x3 x4 x2 (I 253 (j_ix (x5 - 100))) I else none))
def f_M_says_81 (F : Nat) (kb11 : Int32 → Int32 → Int32 → Int32 → j_M → Option (Int32 × j_M)) (x1 : Int32) (x4 : Int32) (s0 : Int32) (I : j_M) : Option (Int32 × j_M) := f_M_says_168 F kb11 x1 0 s0 x4 I
def f_M_says_11b (F : Nat) (kb11 : Int32 → Int32 → Int32 → Int32 → j_M → Option (Int32 × j_M)) (x1 : Int32) (x2 : Int32) (x3 : Int32) (x4 : Int32) (I : j_M) : Option (Int32 × j_M) := (if j_ok x1 30 = true then (if ((130 * x1) + (I 249 (j_ix x1))) ≤ x4 then some (0, I) else (if j_ok x4 3900 = true then j_let (I 250 (j_ix x4)) (fun v4 => (if v4 = 3 then (if x3 = 0 then (if j_ok 0 130 = true then some (I 254 (j_ix 0), I) else none) else f_M_says_168 F kb11 x1 0 0 x4 I) else (if v4 = 2 then (if j_ok 0 130 = true then (if (I 254 (j_ix 0)) = 0 then f_M_says_81 F kb11 x1 x4 1 I else f_M_says_81 F kb11 x1 x4 0 I) else none) else (if v4 = 1 then f_M_says_100 F kb11 x1 x2 x3 x4 v4 I else (if v4 < 100 then j_let (x2 + (-1)) (fun v5 => (if j_ok (v5 - 1) 130 = true then (if j_ok v5 130 = true then j_bd (f_M_both F v4 (I 254 (j_ix (v5 - 1))) (I 254 (j_ix v5)) I) (fun v6 I7 => (if j_ok (v5 - 1) 130 = true then j_let (j_wr I7 254 (j_ix (v5 - 1)) v6) (fun I8 => f_M_says_168 F kb11 x1 v5 x3 x4 I8) else none)) else none) else none)) else f_M_says_100 F kb11 x1 x2 x3 x4 v4 I))))) else none)) else none)
def f_M_says_11 (F : Nat)  (x1 : Int32) (x2 : Int32) (x3 : Int32) (x4 : Int32) (I : j_M) : Option (Int32 × j_M) := j_it (fun (again : Int32 × Int32 × Int32 × Int32 × j_M → Option (Int32 × j_M)) (q : Int32 × Int32 × Int32 × Int32 × j_M) => f_M_says_11b F  (fun x1 x2 x3 x4 I => again (x1, x2, x3, x4, I))  q.1 q.2.1 q.2.2.1 q.2.2.2.1 q.2.2.2.2) F (x1, x2, x3, x4, I)
def f_M_says (F : Nat) (x1 : Int32) (I : j_M) : Option (Int32 × j_M) := j_let (130 * x1) (fun v9 => f_M_says_11 F x1 0 0 v9 I)
set_option maxRecDepth 100000 in
set_option maxHeartbeats 4000000 in
theorem k_M_says_168 {p : Program} {l : Launch} {e : Env} {R : Room} {s : State} {m : MethodId} {args : Array Value} {below : List Frame} {meth : Method} {c : Code} {g : j_G} {b n : Nat} {P : j_R} {F : Nat} (hF : j_Fx 0 260 P) (hn : 260 ≤ n) (X : j_X p R s m args meth c g b 1 jb_M_says 6 "PleasureGardenModel" (some .int)) {kb11 : Int32 → Int32 → Int32 → Int32 → j_M → Option (Int32 × j_M)} (hkb11 : ∀ (x1 : Int32) (x2 : Int32) (x3 : Int32) (x4 : Int32) (I : j_M) (r : Int32 × j_M), kb11 x1 x2 x3 x4 I = some r → j_W p l e R s m args below meth c 6 g b n 0 0 (j_Qi g b n P below args s r) I P 11 [some (.ref (b + 215)), some (.int x1), some (.int x2), some (.int x3), some (.int x4), none] []) {x1 : Int32} {x2 : Int32} {x3 : Int32} {x4 : Int32} {I : j_M} {r : Int32 × j_M}  (h : f_M_says_168 F kb11 x1 x2 x3 x4 I = some r) : j_W p l e R s m args below meth c 6 g b n 0 0 (j_Qi g b n P below args s r) I P 168 [some (.ref (b + 215)), some (.int x1), some (.int x2), some (.int x3), some (.int x4), none] [] := by
  unfold f_M_says_168 at h
  obtain ⟨v1, ev1, h⟩ := j_ex h
  refine j_iinc (v := v1) (lv' := [some (.ref (b + 215)), some (.int x1), some (.int x2), some (.int x3), some (.int v1), none]) X jd_M_says_168 rfl (by rw [ev1]; rfl) (by decide) rfl ?_
  refine j_goto (tgt := 11) X jd_M_says_171 rfl ?_
  exact hkb11 _ _ _ _ _ _ h
set_option maxRecDepth 100000 in
set_option maxHeartbeats 4000000 in
theorem k_M_says_131 {p : Program} {l : Launch} {e : Env} {R : Room} {s : State} {m : MethodId} {args : Array Value} {below : List Frame} {meth : Method} {c : Code} {g : j_G} {b n : Nat} {P : j_R} {F : Nat} (hF : j_Fx 0 260 P) (hn : 260 ≤ n) (X : j_X p R s m args meth c g b 1 jb_M_says 6 "PleasureGardenModel" (some .int)) {kb11 : Int32 → Int32 → Int32 → Int32 → j_M → Option (Int32 × j_M)} (hkb11 : ∀ (x1 : Int32) (x2 : Int32) (x3 : Int32) (x4 : Int32) (I : j_M) (r : Int32 × j_M), kb11 x1 x2 x3 x4 I = some r → j_W p l e R s m args below meth c 6 g b n 0 0 (j_Qi g b n P below args s r) I P 11 [some (.ref (b + 215)), some (.int x1), some (.int x2), some (.int x3), some (.int x4), none] []) {x1 : Int32} {x2 : Int32} {x3 : Int32} {x4 : Int32} {s1 : Int32} {s2 : Int32} {I : j_M} {r : Int32 × j_M}  (h : f_M_says_131 F kb11 x1 x2 x3 x4 s1 s2 I = some r) : j_W p l e R s m args below meth c 6 g b n 0 0 (j_Qi g b n P below args s r) I P 131 [some (.ref (b + 215)), some (.int x1), some (.int x2), some (.int x3), some (.int x4), none] [.int s2, .int s1, .ref (b + 254)] := by
  unfold f_M_says_131 at h
  refine j_iast X js_254 (j_lt rfl hn) jd_M_says_131 h (fun h => ?_)
  refine j_mem h (fun I2 h => ?_)
  obtain ⟨v3, ev3, h⟩ := j_ex h
  refine j_iinc (v := v3) (lv' := [some (.ref (b + 215)), some (.int x1), some (.int v3), some (.int x3), some (.int x4), none]) X jd_M_says_132 rfl (by rw [ev3]; rfl) (by decide) rfl ?_
  refine j_goto (tgt := 168) X jd_M_says_135 rfl ?_
  exact k_M_says_168 hF hn X hkb11 h
set_option maxRecDepth 100000 in
set_option maxHeartbeats 4000000 in
theorem k_M_says_100 {p : Program} {l : Launch} {e : Env} {R : Room} {s : State} {m : MethodId} {args : Array Value} {below : List Frame} {meth : Method} {c : Code} {g : j_G} {b n : Nat} {P : j_R} {F : Nat} (hF : j_Fx 0 260 P) (hn : 260 ≤ n) (X : j_X p R s m args meth c g b 1 jb_M_says 6 "PleasureGardenModel" (some .int)) {kb11 : Int32 → Int32 → Int32 → Int32 → j_M → Option (Int32 × j_M)} (hkb11 : ∀ (x1 : Int32) (x2 : Int32) (x3 : Int32) (x4 : Int32) (I : j_M) (r : Int32 × j_M), kb11 x1 x2 x3 x4 I = some r → j_W p l e R s m args below meth c 6 g b n 0 0 (j_Qi g b n P below args s r) I P 11 [some (.ref (b + 215)), some (.int x1), some (.int x2), some (.int x3), some (.int x4), none] []) {x1 : Int32} {x2 : Int32} {x3 : Int32} {x4 : Int32} {x5 : Int32} {I : j_M} {r : Int32 × j_M}  (h : f_M_says_100 F kb11 x1 x2 x3 x4 x5 I = some r) : j_W p l e R s m args below meth c 6 g b n 0 0 (j_Qi g b n P below args s r) I P 100 [some (.ref (b + 215)), some (.int x1), some (.int x2), some (.int x3), some (.int x4), some (.int x5)] [] := by
  unfold f_M_says_100 at h
  refine j_aload_n X jd_M_says_100 rfl rfl ?_
  refine j_getr X jf_M_134 jk_12_64 js_215 (j_lt rfl hn) (jp_215_64 hF) jd_M_says_101 ?_
  refine j_iload_n X jd_M_says_104 rfl rfl ?_
  refine j_iload X jd_M_says_105 rfl ?_
  refine j_iconst (v := 1) X jd_M_says_107 (by decide) ?_
  refine j_icmp_ne (tgt := 121) X jd_M_says_108 rfl h (fun h => ?_) (fun h => ?_)
  · refine j_aload_n X jd_M_says_111 rfl rfl ?_
    refine j_getr X jf_M_125 jk_12_58 js_215 (j_lt rfl hn) (jp_215_58 hF) jd_M_says_112 ?_
    refine j_iload X jd_M_says_115 rfl ?_
    refine j_iald X js_251 (j_lt rfl hn) jd_M_says_117 h (fun _ h => ?_)
    refine j_goto (tgt := 131) X jd_M_says_118 rfl ?_
    refine j_sub [true, true, true, true, true, false] (lv' := [some (.ref (b + 215)), some (.int x1), some (.int x2), some (.int x3), some (.int x4), none]) rfl ?_
    exact k_M_says_131 hF hn X hkb11 h
  · refine j_aload_n X jd_M_says_121 rfl rfl ?_
    refine j_getr X jf_M_131 jk_12_63 js_215 (j_lt rfl hn) (jp_215_63 hF) jd_M_says_122 ?_
    refine j_iload X jd_M_says_125 rfl ?_
    refine j_bipush (v := 100) X jd_M_says_127 (by decide) ?_
    refine j_isub X jd_M_says_129 ?_
    refine j_iald X js_253 (j_lt rfl hn) jd_M_says_130 h (fun _ h => ?_)
    refine j_sub [true, true, true, true, true, false] (lv' := [some (.ref (b + 215)), some (.int x1), some (.int x2), some (.int x3), some (.int x4), none]) rfl ?_
    exact k_M_says_131 hF hn X hkb11 h
set_option maxRecDepth 100000 in
set_option maxHeartbeats 4000000 in
theorem k_M_says_81 {p : Program} {l : Launch} {e : Env} {R : Room} {s : State} {m : MethodId} {args : Array Value} {below : List Frame} {meth : Method} {c : Code} {g : j_G} {b n : Nat} {P : j_R} {F : Nat} (hF : j_Fx 0 260 P) (hn : 260 ≤ n) (X : j_X p R s m args meth c g b 1 jb_M_says 6 "PleasureGardenModel" (some .int)) {kb11 : Int32 → Int32 → Int32 → Int32 → j_M → Option (Int32 × j_M)} (hkb11 : ∀ (x1 : Int32) (x2 : Int32) (x3 : Int32) (x4 : Int32) (I : j_M) (r : Int32 × j_M), kb11 x1 x2 x3 x4 I = some r → j_W p l e R s m args below meth c 6 g b n 0 0 (j_Qi g b n P below args s r) I P 11 [some (.ref (b + 215)), some (.int x1), some (.int x2), some (.int x3), some (.int x4), none] []) {x1 : Int32} {x4 : Int32} {s0 : Int32} {I : j_M} {r : Int32 × j_M}  (h : f_M_says_81 F kb11 x1 x4 s0 I = some r) : j_W p l e R s m args below meth c 6 g b n 0 0 (j_Qi g b n P below args s r) I P 81 [some (.ref (b + 215)), some (.int x1), none, none, some (.int x4), none] [.int s0] := by
  unfold f_M_says_81 at h
  refine j_istore_n (lv' := [some (.ref (b + 215)), some (.int x1), none, some (.int s0), some (.int x4), none]) X jd_M_says_81 rfl (by decide) rfl ?_
  refine j_iconst (v := 0) X jd_M_says_82 (by decide) ?_
  refine j_istore_n (lv' := [some (.ref (b + 215)), some (.int x1), some (.int 0), some (.int s0), some (.int x4), none]) X jd_M_says_83 rfl (by decide) rfl ?_
  refine j_goto (tgt := 168) X jd_M_says_84 rfl ?_
  exact k_M_says_168 hF hn X hkb11 h
set_option maxRecDepth 100000 in
set_option maxHeartbeats 4000000 in
theorem k_M_says_11b {p : Program} {l : Launch} {e : Env} {R : Room} {s : State} {m : MethodId} {args : Array Value} {below : List Frame} {meth : Method} {c : Code} {g : j_G} {b n : Nat} {P : j_R} {F : Nat} (hF : j_Fx 0 260 P) (hn : 260 ≤ n) (X : j_X p R s m args meth c g b 1 jb_M_says 6 "PleasureGardenModel" (some .int)) {kb11 : Int32 → Int32 → Int32 → Int32 → j_M → Option (Int32 × j_M)} (hkb11 : ∀ (x1 : Int32) (x2 : Int32) (x3 : Int32) (x4 : Int32) (I : j_M) (r : Int32 × j_M), kb11 x1 x2 x3 x4 I = some r → j_W p l e R s m args below meth c 6 g b n 0 0 (j_Qi g b n P below args s r) I P 11 [some (.ref (b + 215)), some (.int x1), some (.int x2), some (.int x3), some (.int x4), none] []) {x1 : Int32} {x2 : Int32} {x3 : Int32} {x4 : Int32} {I : j_M} {r : Int32 × j_M}  (h : f_M_says_11b F kb11 x1 x2 x3 x4 I = some r) : j_W p l e R s m args below meth c 6 g b n 0 0 (j_Qi g b n P below args s r) I P 11 [some (.ref (b + 215)), some (.int x1), some (.int x2), some (.int x3), some (.int x4), none] [] := by
  unfold f_M_says_11b at h
  refine j_iload X jd_M_says_11 rfl ?_
  refine j_sipush (v := 130) X jd_M_says_13 (by decide) ?_
  refine j_iload_n X jd_M_says_16 rfl rfl ?_
  refine j_imul X jd_M_says_17 ?_
  refine j_aload_n X jd_M_says_18 rfl rfl ?_
  refine j_getr X jf_M_119 jk_12_56 js_215 (j_lt rfl hn) (jp_215_56 hF) jd_M_says_19 ?_
  refine j_iload_n X jd_M_says_22 rfl rfl ?_
  refine j_iald X js_249 (j_lt rfl hn) jd_M_says_23 h (fun _ h => ?_)
  refine j_iadd X jd_M_says_24 ?_
  refine j_icmp_ge (tgt := 174) X jd_M_says_25 rfl h (fun h => ?_) (fun h => ?_)
  · refine j_iconst (v := 0) X jd_M_says_174 (by decide) ?_
    exact j_iret X rfl jd_M_says_175 h
  · refine j_aload_n X jd_M_says_28 rfl rfl ?_
    refine j_getr X jf_M_122 jk_12_57 js_215 (j_lt rfl hn) (jp_215_57 hF) jd_M_says_29 ?_
    refine j_iload X jd_M_says_32 rfl ?_
    refine j_iald X js_250 (j_lt rfl hn) jd_M_says_34 h (fun _ h => ?_)
    refine j_nm h (fun v4 h => ?_)
    refine j_istore (lv' := [some (.ref (b + 215)), some (.int x1), some (.int x2), some (.int x3), some (.int x4), some (.int v4)]) X jd_M_says_35 (by decide) rfl ?_
    refine j_iload X jd_M_says_37 rfl ?_
    refine j_iconst (v := 3) X jd_M_says_39 (by decide) ?_
    refine j_icmp_ne (tgt := 61) X jd_M_says_40 rfl h (fun h => ?_) (fun h => ?_)
    · refine j_iload_n X jd_M_says_43 rfl rfl ?_
      refine j_if_ne (tgt := 54) X jd_M_says_44 rfl h (fun h => ?_) (fun h => ?_)
      · refine j_aload_n X jd_M_says_47 rfl rfl ?_
        refine j_getr X jf_M_134 jk_12_64 js_215 (j_lt rfl hn) (jp_215_64 hF) jd_M_says_48 ?_
        refine j_iconst (v := 0) X jd_M_says_51 (by decide) ?_
        refine j_iald X js_254 (j_lt rfl hn) jd_M_says_52 h (fun _ h => ?_)
        exact j_iret X rfl jd_M_says_53 h
      · refine j_iconst (v := 0) X jd_M_says_54 (by decide) ?_
        refine j_istore_n (lv' := [some (.ref (b + 215)), some (.int x1), some (.int x2), some (.int 0), some (.int x4), some (.int v4)]) X jd_M_says_55 rfl (by decide) rfl ?_
        refine j_iconst (v := 0) X jd_M_says_56 (by decide) ?_
        refine j_istore_n (lv' := [some (.ref (b + 215)), some (.int x1), some (.int 0), some (.int 0), some (.int x4), some (.int v4)]) X jd_M_says_57 rfl (by decide) rfl ?_
        refine j_goto (tgt := 168) X jd_M_says_58 rfl ?_
        refine j_sub [true, true, true, true, true, false] (lv' := [some (.ref (b + 215)), some (.int x1), some (.int 0), some (.int 0), some (.int x4), none]) rfl ?_
        exact k_M_says_168 hF hn X hkb11 h
    · refine j_iload X jd_M_says_61 rfl ?_
      refine j_iconst (v := 2) X jd_M_says_63 (by decide) ?_
      refine j_icmp_ne (tgt := 87) X jd_M_says_64 rfl h (fun h => ?_) (fun h => ?_)
      · refine j_aload_n X jd_M_says_67 rfl rfl ?_
        refine j_getr X jf_M_134 jk_12_64 js_215 (j_lt rfl hn) (jp_215_64 hF) jd_M_says_68 ?_
        refine j_iconst (v := 0) X jd_M_says_71 (by decide) ?_
        refine j_iald X js_254 (j_lt rfl hn) jd_M_says_72 h (fun _ h => ?_)
        refine j_if_ne (tgt := 80) X jd_M_says_73 rfl h (fun h => ?_) (fun h => ?_)
        · refine j_iconst (v := 1) X jd_M_says_76 (by decide) ?_
          refine j_goto (tgt := 81) X jd_M_says_77 rfl ?_
          refine j_sub [true, true, false, false, true, false] (lv' := [some (.ref (b + 215)), some (.int x1), none, none, some (.int x4), none]) rfl ?_
          exact k_M_says_81 hF hn X hkb11 h
        · refine j_iconst (v := 0) X jd_M_says_80 (by decide) ?_
          refine j_sub [true, true, false, false, true, false] (lv' := [some (.ref (b + 215)), some (.int x1), none, none, some (.int x4), none]) rfl ?_
          exact k_M_says_81 hF hn X hkb11 h
      · refine j_iload X jd_M_says_87 rfl ?_
        refine j_iconst (v := 1) X jd_M_says_89 (by decide) ?_
        refine j_icmp_eq (tgt := 100) X jd_M_says_90 rfl h (fun h => ?_) (fun h => ?_)
        · exact k_M_says_100 hF hn X hkb11 h
        · refine j_iload X jd_M_says_93 rfl ?_
          refine j_bipush (v := 100) X jd_M_says_95 (by decide) ?_
          refine j_icmp_lt (tgt := 138) X jd_M_says_97 rfl h (fun h => ?_) (fun h => ?_)
          · obtain ⟨v5, ev5, h⟩ := j_ex h
            refine j_iinc (v := v5) (lv' := [some (.ref (b + 215)), some (.int x1), some (.int v5), some (.int x3), some (.int x4), some (.int v4)]) X jd_M_says_138 rfl (by rw [ev5]; rfl) (by decide) rfl ?_
            refine j_aload_n X jd_M_says_141 rfl rfl ?_
            refine j_getr X jf_M_134 jk_12_64 js_215 (j_lt rfl hn) (jp_215_64 hF) jd_M_says_142 ?_
            refine j_iload_n X jd_M_says_145 rfl rfl ?_
            refine j_iconst (v := 1) X jd_M_says_146 (by decide) ?_
            refine j_isub X jd_M_says_147 ?_
            refine j_iload X jd_M_says_148 rfl ?_
            refine j_aload_n X jd_M_says_150 rfl rfl ?_
            refine j_getr X jf_M_134 jk_12_64 js_215 (j_lt rfl hn) (jp_215_64 hF) jd_M_says_151 ?_
            refine j_iload_n X jd_M_says_154 rfl rfl ?_
            refine j_iconst (v := 1) X jd_M_says_155 (by decide) ?_
            refine j_isub X jd_M_says_156 ?_
            refine j_iald X js_254 (j_lt rfl hn) jd_M_says_157 h (fun _ h => ?_)
            refine j_aload_n X jd_M_says_158 rfl rfl ?_
            refine j_getr X jf_M_134 jk_12_64 js_215 (j_lt rfl hn) (jp_215_64 hF) jd_M_says_159 ?_
            refine j_iload_n X jd_M_says_162 rfl rfl ?_
            refine j_iald X js_254 (j_lt rfl hn) jd_M_says_163 h (fun _ h => ?_)
            refine j_callSi (As := [.int v4, .int (I 254 (j_ix (v5 - 1))), .int (I 254 (j_ix v5))]) (st := [.int (v5 - 1), .ref (b + 254)]) X h ⟨jqc_M_both, jqs_M_both, jqn_M⟩ jlm_M_322 jh_M_both.2 rfl (by decide) (by decide) (Nat.le_of_ble_eq_true rfl) ⟨Nat.zero_le _, Nat.zero_le _⟩ (fun v0 I0 h => k_M_both (r := (v0, I0)) hF hn h) jd_M_says_164 rfl (fun v6 I7 h => ?_)
            refine j_iast X js_254 (j_lt rfl hn) jd_M_says_167 h (fun h => ?_)
            refine j_mem h (fun I8 h => ?_)
            refine j_sub [true, true, true, true, true, false] (lv' := [some (.ref (b + 215)), some (.int x1), some (.int v5), some (.int x3), some (.int x4), none]) rfl ?_
            exact k_M_says_168 hF hn X hkb11 h
          · exact k_M_says_100 hF hn X hkb11 h
set_option maxRecDepth 100000 in
set_option maxHeartbeats 4000000 in
theorem k_M_says_11 {p : Program} {l : Launch} {e : Env} {R : Room} {s : State} {m : MethodId} {args : Array Value} {below : List Frame} {meth : Method} {c : Code} {g : j_G} {b n : Nat} {P : j_R} {F : Nat} (hF : j_Fx 0 260 P) (hn : 260 ≤ n) (X : j_X p R s m args meth c g b 1 jb_M_says 6 "PleasureGardenModel" (some .int))  {x1 : Int32} {x2 : Int32} {x3 : Int32} {x4 : Int32} {I : j_M} {r : Int32 × j_M} (h : f_M_says_11 F x1 x2 x3 x4 I = some r) : j_W p l e R s m args below meth c 6 g b n 0 0 (j_Qi g b n P below args s r) I P 11 [some (.ref (b + 215)), some (.int x1), some (.int x2), some (.int x3), some (.int x4), none] [] := by
  refine j_loop (G := fun (q : Int32 × Int32 × Int32 × Int32 × j_M) (r : Int32 × j_M) => j_W p l e R s m args below meth c 6 g b n 0 0 (j_Qi g b n P below args s r) q.2.2.2.2 P 11 [some (.ref (b + 215)), some (.int (q.1)), some (.int (q.2.1)), some (.int (q.2.2.1)), some (.int (q.2.2.2.1)), none] []) ?_ F (x1, x2, x3, x4, I) r h
  intro again hrec0 q r h
  exact k_M_says_11b hF hn X (fun x1 x2 x3 x4 I r h => hrec0 (x1, x2, x3, x4, I) r h)  h
set_option maxRecDepth 100000 in
set_option maxHeartbeats 4000000 in
theorem k_M_says {l : Launch} {g : j_G} {b n : Nat} {P : j_R} {F : Nat} (hF : j_Fx 0 260 P) (hn : 260 ≤ n) {x1 : Int32} {I : j_M} {r : Int32 × j_M}  (h : f_M_says F x1 I = some r) : j_Met l g b n P 1 jy_M_says jb_M_says 6 (some .int) [.ref (b + 215), .int x1] I r.2 (some (.int r.1)) := by
  unfold f_M_says at h
  refine j_enter (plainFor_of_name (by decide)) (Nat.le_of_ble_eq_true rfl) [some (.ref (b + 215)), some (.int x1), none, none, none, none] rfl ?_
  intro p e R s m args below meth c X0 hnm hRc hRs
  have X : j_X p R s m args meth c g b 1 jb_M_says 6 "PleasureGardenModel" (some .int) := X0
  clear X0
  refine j_iconst (v := 0) X jd_M_says_0 (by decide) ?_
  refine j_istore_n (lv' := [some (.ref (b + 215)), some (.int x1), some (.int 0), none, none, none]) X jd_M_says_1 rfl (by decide) rfl ?_
  refine j_iconst (v := 0) X jd_M_says_2 (by decide) ?_
  refine j_istore_n (lv' := [some (.ref (b + 215)), some (.int x1), some (.int 0), some (.int 0), none, none]) X jd_M_says_3 rfl (by decide) rfl ?_
  refine j_sipush (v := 130) X jd_M_says_4 (by decide) ?_
  refine j_iload_n X jd_M_says_7 rfl rfl ?_
  refine j_imul X jd_M_says_8 ?_
  refine j_nm h (fun v9 h => ?_)
  refine j_istore (lv' := [some (.ref (b + 215)), some (.int x1), some (.int 0), some (.int 0), some (.int v9), none]) X jd_M_says_9 (by decide) rfl ?_
  exact k_M_says_11 hF hn X h
-- PleasureGardenModel.night(II)I
theorem jd_M_night_0 : decode jb_M_night 0 = .ok (.iload_n 1, 1) := by decide +kernel
theorem jd_M_night_1 : decode jb_M_night 1 = .ok (.iconst 0, 1) := by decide +kernel
theorem jd_M_night_2 : decode jb_M_night 2 = .ok (.aload_n 0, 1) := by decide +kernel
theorem jd_M_night_3 : decode jb_M_night 3 = .ok (.getfield 316, 3) := by decide +kernel
theorem jd_M_night_6 : decode jb_M_night 6 = .ok (.iconst 1, 1) := by decide +kernel
theorem jd_M_night_7 : decode jb_M_night 7 = .ok (.isub, 1) := by decide +kernel
theorem jd_M_night_8 : decode jb_M_night 8 = .ok (.invokestatic 158, 3) := by decide +kernel
theorem jd_M_night_11 : decode jb_M_night 11 = .ok (.ifCond .ne 7, 3) := by decide +kernel
theorem jd_M_night_14 : decode jb_M_night 14 = .ok (.ldc_w 338, 3) := by decide +kernel
theorem jd_M_night_17 : decode jb_M_night 17 = .ok (.ireturn, 1) := by decide +kernel
theorem jd_M_night_18 : decode jb_M_night 18 = .ok (.iload_n 2, 1) := by decide +kernel
theorem jd_M_night_19 : decode jb_M_night 19 = .ok (.tableswitch 46 0 2 #[25, 32, 39], 25) := by decide +kernel
theorem jd_M_night_44 : decode jb_M_night 44 = .ok (.aload_n 0, 1) := by decide +kernel
theorem jd_M_night_45 : decode jb_M_night 45 = .ok (.getfield 137, 3) := by decide +kernel
theorem jd_M_night_48 : decode jb_M_night 48 = .ok (.iload_n 1, 1) := by decide +kernel
theorem jd_M_night_49 : decode jb_M_night 49 = .ok (.iaload, 1) := by decide +kernel
theorem jd_M_night_50 : decode jb_M_night 50 = .ok (.ireturn, 1) := by decide +kernel
theorem jd_M_night_51 : decode jb_M_night 51 = .ok (.aload_n 0, 1) := by decide +kernel
theorem jd_M_night_52 : decode jb_M_night 52 = .ok (.getfield 140, 3) := by decide +kernel
theorem jd_M_night_55 : decode jb_M_night 55 = .ok (.iload_n 1, 1) := by decide +kernel
theorem jd_M_night_56 : decode jb_M_night 56 = .ok (.iaload, 1) := by decide +kernel
theorem jd_M_night_57 : decode jb_M_night 57 = .ok (.ireturn, 1) := by decide +kernel
theorem jd_M_night_58 : decode jb_M_night 58 = .ok (.aload_n 0, 1) := by decide +kernel
theorem jd_M_night_59 : decode jb_M_night 59 = .ok (.getfield 143, 3) := by decide +kernel
theorem jd_M_night_62 : decode jb_M_night 62 = .ok (.iload_n 1, 1) := by decide +kernel
theorem jd_M_night_63 : decode jb_M_night 63 = .ok (.iaload, 1) := by decide +kernel
theorem jd_M_night_64 : decode jb_M_night 64 = .ok (.ireturn, 1) := by decide +kernel
theorem jd_M_night_65 : decode jb_M_night 65 = .ok (.ldc_w 338, 3) := by decide +kernel
theorem jd_M_night_68 : decode jb_M_night 68 = .ok (.ireturn, 1) := by decide +kernel
def f_M_night (F : Nat) (x1 : Int32) (x2 : Int32) (I : j_M) : Option (Int32 × j_M) := j_bd (f_M_among F x1 0 ((I 215 1) - 1) I) (fun v1 I2 => (if v1 = 0 then some ((-2000000000), I2) else (if x2 = 0 then (if j_ok x1 200 = true then some (I2 255 (j_ix x1), I2) else none) else (if x2 = 1 then (if j_ok x1 200 = true then some (I2 256 (j_ix x1), I2) else none) else (if x2 = 2 then (if j_ok x1 200 = true then some (I2 257 (j_ix x1), I2) else none) else some ((-2000000000), I2))))))
set_option maxRecDepth 100000 in
set_option maxHeartbeats 4000000 in
theorem k_M_night {l : Launch} {g : j_G} {b n : Nat} {P : j_R} {F : Nat} (hF : j_Fx 0 260 P) (hn : 260 ≤ n) {x1 : Int32} {x2 : Int32} {I : j_M} {r : Int32 × j_M}  (h : f_M_night F x1 x2 I = some r) : j_Met l g b n P 1 jy_M_night jb_M_night 3 (some .int) [.ref (b + 215), .int x1, .int x2] I r.2 (some (.int r.1)) := by
  unfold f_M_night at h
  refine j_enter (plainFor_of_name (by decide)) (Nat.le_of_ble_eq_true rfl) [some (.ref (b + 215)), some (.int x1), some (.int x2)] rfl ?_
  intro p e R s m args below meth c X0 hnm hRc hRs
  have X : j_X p R s m args meth c g b 1 jb_M_night 3 "PleasureGardenModel" (some .int) := X0
  clear X0
  refine j_iload_n X jd_M_night_0 rfl rfl ?_
  refine j_iconst (v := 0) X jd_M_night_1 (by decide) ?_
  refine j_aload_n X jd_M_night_2 rfl rfl ?_
  refine j_get X jf_M_316 jk_12_1 js_215 (j_lt rfl hn) jd_M_night_3 ?_
  refine j_iconst (v := 1) X jd_M_night_6 (by decide) ?_
  refine j_isub X jd_M_night_7 ?_
  refine j_callSi (As := [.int x1, .int 0, .int ((I 215 1) - 1)]) (st := []) X h ⟨jqc_M_among, jqs_M_among, jqn_M⟩ jlm_M_158 jh_M_among.2 rfl (by decide) (by decide) (Nat.le_of_ble_eq_true rfl) ⟨Nat.zero_le _, Nat.zero_le _⟩ (fun v0 I0 h => k_M_among (r := (v0, I0)) hF hn h) jd_M_night_8 rfl (fun v1 I2 h => ?_)
  refine j_if_ne (tgt := 18) X jd_M_night_11 rfl h (fun h => ?_) (fun h => ?_)
  · refine j_ldcw (v := (-2000000000)) X jlc_M_338 jd_M_night_14 ?_
    exact j_iret X rfl jd_M_night_17 h
  · refine j_iload_n X jd_M_night_18 rfl rfl ?_
    refine j_ite h (fun e3 h => ?_) (fun e3 h => ?_)
    · refine j_tableIn (tgt := 44) (off := 25) X jd_M_night_19 e3 (by decide) (by decide) (by decide) rfl ?_
      refine j_aload_n X jd_M_night_44 rfl rfl ?_
      refine j_getr X jf_M_137 jk_12_65 js_215 (j_lt rfl hn) (jp_215_65 hF) jd_M_night_45 ?_
      refine j_iload_n X jd_M_night_48 rfl rfl ?_
      refine j_iald X js_255 (j_lt rfl hn) jd_M_night_49 h (fun _ h => ?_)
      exact j_iret X rfl jd_M_night_50 h
    · refine j_ite h (fun e4 h => ?_) (fun e4 h => ?_)
      · refine j_tableIn (tgt := 51) (off := 32) X jd_M_night_19 e4 (by decide) (by decide) (by decide) rfl ?_
        refine j_aload_n X jd_M_night_51 rfl rfl ?_
        refine j_getr X jf_M_140 jk_12_66 js_215 (j_lt rfl hn) (jp_215_66 hF) jd_M_night_52 ?_
        refine j_iload_n X jd_M_night_55 rfl rfl ?_
        refine j_iald X js_256 (j_lt rfl hn) jd_M_night_56 h (fun _ h => ?_)
        exact j_iret X rfl jd_M_night_57 h
      · refine j_ite h (fun e5 h => ?_) (fun e5 h => ?_)
        · refine j_tableIn (tgt := 58) (off := 39) X jd_M_night_19 e5 (by decide) (by decide) (by decide) rfl ?_
          refine j_aload_n X jd_M_night_58 rfl rfl ?_
          refine j_getr X jf_M_143 jk_12_67 js_215 (j_lt rfl hn) (jp_215_67 hF) jd_M_night_59 ?_
          refine j_iload_n X jd_M_night_62 rfl rfl ?_
          refine j_iald X js_257 (j_lt rfl hn) jd_M_night_63 h (fun _ h => ?_)
          exact j_iret X rfl jd_M_night_64 h
        · refine j_tableDef (tgt := 65) X [0, 1, 2] jd_M_night_19 (j_allc e3 (j_allc e4 (j_allc e5 j_all0))) (by decide) (by decide) (by decide) (by decide) rfl ?_
          refine j_ldcw (v := (-2000000000)) X jlc_M_338 jd_M_night_65 ?_
          exact j_iret X rfl jd_M_night_68 h
-- PleasureGardenModel.foretold(I)I
theorem jd_M_foretold_0 : decode jb_M_foretold 0 = .ok (.iload_n 1, 1) := by decide +kernel
theorem jd_M_foretold_1 : decode jb_M_foretold 1 = .ok (.iconst 0, 1) := by decide +kernel
theorem jd_M_foretold_2 : decode jb_M_foretold 2 = .ok (.sipush 480, 3) := by decide +kernel
theorem jd_M_foretold_5 : decode jb_M_foretold 5 = .ok (.invokestatic 158, 3) := by decide +kernel
theorem jd_M_foretold_8 : decode jb_M_foretold 8 = .ok (.ifCond .eq 10, 3) := by decide +kernel
theorem jd_M_foretold_11 : decode jb_M_foretold 11 = .ok (.aload_n 0, 1) := by decide +kernel
theorem jd_M_foretold_12 : decode jb_M_foretold 12 = .ok (.getfield 316, 3) := by decide +kernel
theorem jd_M_foretold_15 : decode jb_M_foretold 15 = .ok (.ifCond .ne 7, 3) := by decide +kernel
theorem jd_M_foretold_18 : decode jb_M_foretold 18 = .ok (.ldc_w 338, 3) := by decide +kernel
theorem jd_M_foretold_21 : decode jb_M_foretold 21 = .ok (.ireturn, 1) := by decide +kernel
theorem jd_M_foretold_22 : decode jb_M_foretold 22 = .ok (.ldc 166, 2) := by decide +kernel
theorem jd_M_foretold_24 : decode jb_M_foretold 24 = .ok (.istore_n 2, 1) := by decide +kernel
theorem jd_M_foretold_25 : decode jb_M_foretold 25 = .ok (.iconst 0, 1) := by decide +kernel
theorem jd_M_foretold_26 : decode jb_M_foretold 26 = .ok (.istore_n 3, 1) := by decide +kernel
theorem jd_M_foretold_27 : decode jb_M_foretold 27 = .ok (.iload_n 3, 1) := by decide +kernel
theorem jd_M_foretold_28 : decode jb_M_foretold 28 = .ok (.aload_n 0, 1) := by decide +kernel
theorem jd_M_foretold_29 : decode jb_M_foretold 29 = .ok (.getfield 316, 3) := by decide +kernel
theorem jd_M_foretold_32 : decode jb_M_foretold 32 = .ok (.if_icmp .ge 38, 3) := by decide +kernel
theorem jd_M_foretold_35 : decode jb_M_foretold 35 = .ok (.aload_n 0, 1) := by decide +kernel
theorem jd_M_foretold_36 : decode jb_M_foretold 36 = .ok (.getfield 140, 3) := by decide +kernel
theorem jd_M_foretold_39 : decode jb_M_foretold 39 = .ok (.iload_n 3, 1) := by decide +kernel
theorem jd_M_foretold_40 : decode jb_M_foretold 40 = .ok (.iaload, 1) := by decide +kernel
theorem jd_M_foretold_41 : decode jb_M_foretold 41 = .ok (.iload_n 1, 1) := by decide +kernel
theorem jd_M_foretold_42 : decode jb_M_foretold 42 = .ok (.invokestatic 342, 3) := by decide +kernel
theorem jd_M_foretold_45 : decode jb_M_foretold 45 = .ok (.iload_n 2, 1) := by decide +kernel
theorem jd_M_foretold_46 : decode jb_M_foretold 46 = .ok (.if_icmp .ge 16, 3) := by decide +kernel
theorem jd_M_foretold_49 : decode jb_M_foretold 49 = .ok (.aload_n 0, 1) := by decide +kernel
theorem jd_M_foretold_50 : decode jb_M_foretold 50 = .ok (.getfield 140, 3) := by decide +kernel
theorem jd_M_foretold_53 : decode jb_M_foretold 53 = .ok (.iload_n 3, 1) := by decide +kernel
theorem jd_M_foretold_54 : decode jb_M_foretold 54 = .ok (.iaload, 1) := by decide +kernel
theorem jd_M_foretold_55 : decode jb_M_foretold 55 = .ok (.iload_n 1, 1) := by decide +kernel
theorem jd_M_foretold_56 : decode jb_M_foretold 56 = .ok (.invokestatic 342, 3) := by decide +kernel
theorem jd_M_foretold_59 : decode jb_M_foretold 59 = .ok (.goto 4, 3) := by decide +kernel
theorem jd_M_foretold_62 : decode jb_M_foretold 62 = .ok (.iload_n 2, 1) := by decide +kernel
theorem jd_M_foretold_63 : decode jb_M_foretold 63 = .ok (.istore_n 2, 1) := by decide +kernel
theorem jd_M_foretold_64 : decode jb_M_foretold 64 = .ok (.iinc 3 1, 3) := by decide +kernel
theorem jd_M_foretold_67 : decode jb_M_foretold 67 = .ok (.goto (-40), 3) := by decide +kernel
theorem jd_M_foretold_70 : decode jb_M_foretold 70 = .ok (.lconst 0, 1) := by decide +kernel
theorem jd_M_foretold_71 : decode jb_M_foretold 71 = .ok (.lstore_n 3, 1) := by decide +kernel
theorem jd_M_foretold_72 : decode jb_M_foretold 72 = .ok (.lconst 0, 1) := by decide +kernel
theorem jd_M_foretold_73 : decode jb_M_foretold 73 = .ok (.lstore 5, 2) := by decide +kernel
theorem jd_M_foretold_75 : decode jb_M_foretold 75 = .ok (.iconst 0, 1) := by decide +kernel
theorem jd_M_foretold_76 : decode jb_M_foretold 76 = .ok (.istore 7, 2) := by decide +kernel
theorem jd_M_foretold_78 : decode jb_M_foretold 78 = .ok (.iload 7, 2) := by decide +kernel
theorem jd_M_foretold_80 : decode jb_M_foretold 80 = .ok (.aload_n 0, 1) := by decide +kernel
theorem jd_M_foretold_81 : decode jb_M_foretold 81 = .ok (.getfield 316, 3) := by decide +kernel
theorem jd_M_foretold_84 : decode jb_M_foretold 84 = .ok (.if_icmp .ge 44, 3) := by decide +kernel
theorem jd_M_foretold_87 : decode jb_M_foretold 87 = .ok (.aload_n 0, 1) := by decide +kernel
theorem jd_M_foretold_88 : decode jb_M_foretold 88 = .ok (.getfield 140, 3) := by decide +kernel
theorem jd_M_foretold_91 : decode jb_M_foretold 91 = .ok (.iload 7, 2) := by decide +kernel
theorem jd_M_foretold_93 : decode jb_M_foretold 93 = .ok (.iaload, 1) := by decide +kernel
theorem jd_M_foretold_94 : decode jb_M_foretold 94 = .ok (.iload_n 1, 1) := by decide +kernel
theorem jd_M_foretold_95 : decode jb_M_foretold 95 = .ok (.invokestatic 342, 3) := by decide +kernel
theorem jd_M_foretold_98 : decode jb_M_foretold 98 = .ok (.iload_n 2, 1) := by decide +kernel
theorem jd_M_foretold_99 : decode jb_M_foretold 99 = .ok (.if_icmp .eq 6, 3) := by decide +kernel
theorem jd_M_foretold_102 : decode jb_M_foretold 102 = .ok (.goto 20, 3) := by decide +kernel
theorem jd_M_foretold_105 : decode jb_M_foretold 105 = .ok (.lload_n 3, 1) := by decide +kernel
theorem jd_M_foretold_106 : decode jb_M_foretold 106 = .ok (.aload_n 0, 1) := by decide +kernel
theorem jd_M_foretold_107 : decode jb_M_foretold 107 = .ok (.getfield 137, 3) := by decide +kernel
theorem jd_M_foretold_110 : decode jb_M_foretold 110 = .ok (.iload 7, 2) := by decide +kernel
theorem jd_M_foretold_112 : decode jb_M_foretold 112 = .ok (.iaload, 1) := by decide +kernel
theorem jd_M_foretold_113 : decode jb_M_foretold 113 = .ok (.i2l, 1) := by decide +kernel
theorem jd_M_foretold_114 : decode jb_M_foretold 114 = .ok (.ladd, 1) := by decide +kernel
theorem jd_M_foretold_115 : decode jb_M_foretold 115 = .ok (.lstore_n 3, 1) := by decide +kernel
theorem jd_M_foretold_116 : decode jb_M_foretold 116 = .ok (.lload 5, 2) := by decide +kernel
theorem jd_M_foretold_118 : decode jb_M_foretold 118 = .ok (.lconst 1, 1) := by decide +kernel
theorem jd_M_foretold_119 : decode jb_M_foretold 119 = .ok (.ladd, 1) := by decide +kernel
theorem jd_M_foretold_120 : decode jb_M_foretold 120 = .ok (.lstore 5, 2) := by decide +kernel
theorem jd_M_foretold_122 : decode jb_M_foretold 122 = .ok (.iinc 7 1, 3) := by decide +kernel
theorem jd_M_foretold_125 : decode jb_M_foretold 125 = .ok (.goto (-47), 3) := by decide +kernel
theorem jd_M_foretold_128 : decode jb_M_foretold 128 = .ok (.lload_n 3, 1) := by decide +kernel
theorem jd_M_foretold_129 : decode jb_M_foretold 129 = .ok (.lload 5, 2) := by decide +kernel
theorem jd_M_foretold_131 : decode jb_M_foretold 131 = .ok (.ldiv, 1) := by decide +kernel
theorem jd_M_foretold_132 : decode jb_M_foretold 132 = .ok (.lstore 7, 2) := by decide +kernel
theorem jd_M_foretold_134 : decode jb_M_foretold 134 = .ok (.lload_n 3, 1) := by decide +kernel
theorem jd_M_foretold_135 : decode jb_M_foretold 135 = .ok (.lload 5, 2) := by decide +kernel
theorem jd_M_foretold_137 : decode jb_M_foretold 137 = .ok (.lrem, 1) := by decide +kernel
theorem jd_M_foretold_138 : decode jb_M_foretold 138 = .ok (.lconst 0, 1) := by decide +kernel
theorem jd_M_foretold_139 : decode jb_M_foretold 139 = .ok (.lcmp, 1) := by decide +kernel
theorem jd_M_foretold_140 : decode jb_M_foretold 140 = .ok (.ifCond .ge 10, 3) := by decide +kernel
theorem jd_M_foretold_143 : decode jb_M_foretold 143 = .ok (.lload 7, 2) := by decide +kernel
theorem jd_M_foretold_145 : decode jb_M_foretold 145 = .ok (.lconst 1, 1) := by decide +kernel
theorem jd_M_foretold_146 : decode jb_M_foretold 146 = .ok (.lsub, 1) := by decide +kernel
theorem jd_M_foretold_147 : decode jb_M_foretold 147 = .ok (.goto 5, 3) := by decide +kernel
theorem jd_M_foretold_150 : decode jb_M_foretold 150 = .ok (.lload 7, 2) := by decide +kernel
theorem jd_M_foretold_152 : decode jb_M_foretold 152 = .ok (.l2i, 1) := by decide +kernel
theorem jd_M_foretold_153 : decode jb_M_foretold 153 = .ok (.ireturn, 1) := by decide +kernel
def f_M_foretold_122 (F : Nat) (kb78 : Int32 → Int32 → Int64 → Int64 → Int32 → j_M → Option (Int32 × j_M)) (x1 : Int32) (x2 : Int32) (x3 : Int64) (x5 : Int64) (x7 : Int32) (I : j_M) : Option (Int32 × j_M) := j_let (x7 + 1) (fun v1 => kb78 x1 x2 x3 x5 v1 I)
def f_M_foretold_78b (F : Nat) (kb78 : Int32 → Int32 → Int64 → Int64 → Int32 → j_M → Option (Int32 × j_M)) (x1 : Int32) (x2 : Int32) (x3 : Int64) (x5 : Int64) (x7 : Int32) (I : j_M) : Option (Int32 × j_M) := (if (I 215 1) ≤ x7 then (if x5 = 0 then none else j_let (x3 / x5) (fun w2 => (if x5 = 0 then none else (if 0 ≤ (lg_cmp (x3 - x3 / x5 * x5) 0) then some (w2.toInt32, I) else some ((w2 - 1).toInt32, I))))) else (if j_ok x7 200 = true then j_bd (f_M_off F (I 256 (j_ix x7)) x1 I) (fun v3 I4 => (if v3 = x2 then (if j_ok x7 200 = true then j_let (x3 + ((I4 255 (j_ix x7)).toInt64)) (fun w5 => j_let (x5 + 1) (fun w6 => f_M_foretold_122 F kb78 x1 x2 w5 w6 x7 I4)) else none) else f_M_foretold_122 F kb78 x1 x2 x3 x5 x7 I4)) else none))
def f_M_foretold_78 (F : Nat)  (x1 : Int32) (x2 : Int32) (x3 : Int64) (x5 : Int64) (x7 : Int32) (I : j_M) : Option (Int32 × j_M) := j_it (fun (again : Int32 × Int32 × Int64 × Int64 × Int32 × j_M → Option (Int32 × j_M)) (q : Int32 × Int32 × Int64 × Int64 × Int32 × j_M) => f_M_foretold_78b F  (fun x1 x2 x3 x5 x7 I => again (x1, x2, x3, x5, x7, I))  q.1 q.2.1 q.2.2.1 q.2.2.2.1 q.2.2.2.2.1 q.2.2.2.2.2) F (x1, x2, x3, x5, x7, I)
def f_M_foretold_63 (F : Nat) (kb27 : Int32 → Int32 → Int32 → j_M → Option (Int32 × j_M)) (x1 : Int32) (x3 : Int32) (s0 : Int32) (I : j_M) : Option (Int32 × j_M) := j_let (x3 + 1) (fun v7 => kb27 x1 s0 v7 I)
def f_M_foretold_27b (F : Nat) (kb27 : Int32 → Int32 → Int32 → j_M → Option (Int32 × j_M)) (x1 : Int32) (x2 : Int32) (x3 : Int32) (I : j_M) : Option (Int32 × j_M) := (if (I 215 1) ≤ x3 then f_M_foretold_78 F x1 x2 0 0 0 I else (if j_ok x3 200 = true then j_bd (f_M_off F (I 256 (j_ix x3)) x1 I) (fun v8 I9 => (if x2 ≤ v8 then f_M_foretold_63 F kb27 x1 x3 x2 I9 else (if j_ok x3 200 = true then j_bd (f_M_off F (I9 256 (j_ix x3)) x1 I9) (fun v10 I11 => f_M_foretold_63 F kb27 x1 x3 v10 I11) else none))) else none))
def f_M_foretold_27 (F : Nat)  (x1 : Int32) (x2 : Int32) (x3 : Int32) (I : j_M) : Option (Int32 × j_M) := j_it (fun (again : Int32 × Int32 × Int32 × j_M → Option (Int32 × j_M)) (q : Int32 × Int32 × Int32 × j_M) => f_M_foretold_27b F  (fun x1 x2 x3 I => again (x1, x2, x3, I))  q.1 q.2.1 q.2.2.1 q.2.2.2) F (x1, x2, x3, I)
def f_M_foretold (F : Nat) (x1 : Int32) (I : j_M) : Option (Int32 × j_M) := j_bd (f_M_among F x1 0 480 I) (fun v12 I13 => (if v12 = 0 then some ((-2000000000), I13) else (if (I13 215 1) = 0 then some ((-2000000000), I13) else f_M_foretold_27 F x1 1000000 0 I13)))
set_option maxRecDepth 100000 in
set_option maxHeartbeats 4000000 in
theorem k_M_foretold_122 {p : Program} {l : Launch} {e : Env} {R : Room} {s : State} {m : MethodId} {args : Array Value} {below : List Frame} {meth : Method} {c : Code} {g : j_G} {b n : Nat} {P : j_R} {F : Nat} (hF : j_Fx 0 260 P) (hn : 260 ≤ n) (X : j_X p R s m args meth c g b 1 jb_M_foretold 9 "PleasureGardenModel" (some .int)) {kb78 : Int32 → Int32 → Int64 → Int64 → Int32 → j_M → Option (Int32 × j_M)} (hkb78 : ∀ (x1 : Int32) (x2 : Int32) (x3 : Int64) (x5 : Int64) (x7 : Int32) (I : j_M) (r : Int32 × j_M), kb78 x1 x2 x3 x5 x7 I = some r → j_W p l e R s m args below meth c 9 g b n 0 0 (j_Qi g b n P below args s r) I P 78 [some (.ref (b + 215)), some (.int x1), some (.int x2), some (.long x3), none, some (.long x5), none, some (.int x7), none] []) {x1 : Int32} {x2 : Int32} {x3 : Int64} {x5 : Int64} {x7 : Int32} {I : j_M} {r : Int32 × j_M}  (h : f_M_foretold_122 F kb78 x1 x2 x3 x5 x7 I = some r) : j_W p l e R s m args below meth c 9 g b n 0 0 (j_Qi g b n P below args s r) I P 122 [some (.ref (b + 215)), some (.int x1), some (.int x2), some (.long x3), none, some (.long x5), none, some (.int x7), none] [] := by
  unfold f_M_foretold_122 at h
  obtain ⟨v1, ev1, h⟩ := j_ex h
  refine j_iinc (v := v1) (lv' := [some (.ref (b + 215)), some (.int x1), some (.int x2), some (.long x3), none, some (.long x5), none, some (.int v1), none]) X jd_M_foretold_122 rfl (by rw [ev1]; rfl) (by decide) rfl ?_
  refine j_goto (tgt := 78) X jd_M_foretold_125 rfl ?_
  exact hkb78 _ _ _ _ _ _ _ h
set_option maxRecDepth 100000 in
set_option maxHeartbeats 4000000 in
theorem k_M_foretold_78b {p : Program} {l : Launch} {e : Env} {R : Room} {s : State} {m : MethodId} {args : Array Value} {below : List Frame} {meth : Method} {c : Code} {g : j_G} {b n : Nat} {P : j_R} {F : Nat} (hF : j_Fx 0 260 P) (hn : 260 ≤ n) (X : j_X p R s m args meth c g b 1 jb_M_foretold 9 "PleasureGardenModel" (some .int)) {kb78 : Int32 → Int32 → Int64 → Int64 → Int32 → j_M → Option (Int32 × j_M)} (hkb78 : ∀ (x1 : Int32) (x2 : Int32) (x3 : Int64) (x5 : Int64) (x7 : Int32) (I : j_M) (r : Int32 × j_M), kb78 x1 x2 x3 x5 x7 I = some r → j_W p l e R s m args below meth c 9 g b n 0 0 (j_Qi g b n P below args s r) I P 78 [some (.ref (b + 215)), some (.int x1), some (.int x2), some (.long x3), none, some (.long x5), none, some (.int x7), none] []) {x1 : Int32} {x2 : Int32} {x3 : Int64} {x5 : Int64} {x7 : Int32} {I : j_M} {r : Int32 × j_M}  (h : f_M_foretold_78b F kb78 x1 x2 x3 x5 x7 I = some r) : j_W p l e R s m args below meth c 9 g b n 0 0 (j_Qi g b n P below args s r) I P 78 [some (.ref (b + 215)), some (.int x1), some (.int x2), some (.long x3), none, some (.long x5), none, some (.int x7), none] [] := by
  unfold f_M_foretold_78b at h
  refine j_iload X jd_M_foretold_78 rfl ?_
  refine j_aload_n X jd_M_foretold_80 rfl rfl ?_
  refine j_get X jf_M_316 jk_12_1 js_215 (j_lt rfl hn) jd_M_foretold_81 ?_
  refine j_icmp_ge (tgt := 128) X jd_M_foretold_84 rfl h (fun h => ?_) (fun h => ?_)
  · refine j_lload_n X jd_M_foretold_128 rfl rfl ?_
    refine j_lload X jd_M_foretold_129 rfl ?_
    refine j_ldiv X jd_M_foretold_131 h (fun h => ?_)
    refine j_nml h (fun w2 h => ?_)
    refine j_lstore (lv' := [some (.ref (b + 215)), some (.int x1), some (.int x2), some (.long x3), none, some (.long x5), none, some (.long w2), none]) X jd_M_foretold_132 (by decide) rfl ?_
    refine j_lload_n X jd_M_foretold_134 rfl rfl ?_
    refine j_lload X jd_M_foretold_135 rfl ?_
    refine j_lrem X jd_M_foretold_137 h (fun h => ?_)
    refine j_lconst (v := 0) X jd_M_foretold_138 (by decide) ?_
    refine j_lcmp X jd_M_foretold_139 ?_
    refine j_if_ge (tgt := 150) X jd_M_foretold_140 rfl h (fun h => ?_) (fun h => ?_)
    · refine j_lload X jd_M_foretold_150 rfl ?_
      refine j_l2i X jd_M_foretold_152 ?_
      exact j_iret X rfl jd_M_foretold_153 h
    · refine j_lload X jd_M_foretold_143 rfl ?_
      refine j_lconst (v := 1) X jd_M_foretold_145 (by decide) ?_
      refine j_lsub X jd_M_foretold_146 ?_
      refine j_goto (tgt := 152) X jd_M_foretold_147 rfl ?_
      refine j_l2i X jd_M_foretold_152 ?_
      exact j_iret X rfl jd_M_foretold_153 h
  · refine j_aload_n X jd_M_foretold_87 rfl rfl ?_
    refine j_getr X jf_M_140 jk_12_66 js_215 (j_lt rfl hn) (jp_215_66 hF) jd_M_foretold_88 ?_
    refine j_iload X jd_M_foretold_91 rfl ?_
    refine j_iald X js_256 (j_lt rfl hn) jd_M_foretold_93 h (fun _ h => ?_)
    refine j_iload_n X jd_M_foretold_94 rfl rfl ?_
    refine j_callSi (As := [.int (I 256 (j_ix x7)), .int x1]) (st := []) X h ⟨jqc_M_off, jqs_M_off, jqn_M⟩ jlm_M_342 jh_M_off.2 rfl (by decide) (by decide) (Nat.le_of_ble_eq_true rfl) ⟨Nat.zero_le _, Nat.zero_le _⟩ (fun v0 I0 h => k_M_off (r := (v0, I0)) hF hn h) jd_M_foretold_95 rfl (fun v3 I4 h => ?_)
    refine j_iload_n X jd_M_foretold_98 rfl rfl ?_
    refine j_icmp_eq (tgt := 105) X jd_M_foretold_99 rfl h (fun h => ?_) (fun h => ?_)
    · refine j_lload_n X jd_M_foretold_105 rfl rfl ?_
      refine j_aload_n X jd_M_foretold_106 rfl rfl ?_
      refine j_getr X jf_M_137 jk_12_65 js_215 (j_lt rfl hn) (jp_215_65 hF) jd_M_foretold_107 ?_
      refine j_iload X jd_M_foretold_110 rfl ?_
      refine j_iald X js_255 (j_lt rfl hn) jd_M_foretold_112 h (fun _ h => ?_)
      refine j_i2l X jd_M_foretold_113 ?_
      refine j_ladd X jd_M_foretold_114 ?_
      refine j_nml h (fun w5 h => ?_)
      refine j_lstore_n (lv' := [some (.ref (b + 215)), some (.int x1), some (.int x2), some (.long w5), none, some (.long x5), none, some (.int x7), none]) X jd_M_foretold_115 rfl (by decide) rfl ?_
      refine j_lload X jd_M_foretold_116 rfl ?_
      refine j_lconst (v := 1) X jd_M_foretold_118 (by decide) ?_
      refine j_ladd X jd_M_foretold_119 ?_
      refine j_nml h (fun w6 h => ?_)
      refine j_lstore (lv' := [some (.ref (b + 215)), some (.int x1), some (.int x2), some (.long w5), none, some (.long w6), none, some (.int x7), none]) X jd_M_foretold_120 (by decide) rfl ?_
      exact k_M_foretold_122 hF hn X hkb78 h
    · refine j_goto (tgt := 122) X jd_M_foretold_102 rfl ?_
      exact k_M_foretold_122 hF hn X hkb78 h
set_option maxRecDepth 100000 in
set_option maxHeartbeats 4000000 in
theorem k_M_foretold_78 {p : Program} {l : Launch} {e : Env} {R : Room} {s : State} {m : MethodId} {args : Array Value} {below : List Frame} {meth : Method} {c : Code} {g : j_G} {b n : Nat} {P : j_R} {F : Nat} (hF : j_Fx 0 260 P) (hn : 260 ≤ n) (X : j_X p R s m args meth c g b 1 jb_M_foretold 9 "PleasureGardenModel" (some .int))  {x1 : Int32} {x2 : Int32} {x3 : Int64} {x5 : Int64} {x7 : Int32} {I : j_M} {r : Int32 × j_M} (h : f_M_foretold_78 F x1 x2 x3 x5 x7 I = some r) : j_W p l e R s m args below meth c 9 g b n 0 0 (j_Qi g b n P below args s r) I P 78 [some (.ref (b + 215)), some (.int x1), some (.int x2), some (.long x3), none, some (.long x5), none, some (.int x7), none] [] := by
  refine j_loop (G := fun (q : Int32 × Int32 × Int64 × Int64 × Int32 × j_M) (r : Int32 × j_M) => j_W p l e R s m args below meth c 9 g b n 0 0 (j_Qi g b n P below args s r) q.2.2.2.2.2 P 78 [some (.ref (b + 215)), some (.int (q.1)), some (.int (q.2.1)), some (.long (q.2.2.1)), none, some (.long (q.2.2.2.1)), none, some (.int (q.2.2.2.2.1)), none] []) ?_ F (x1, x2, x3, x5, x7, I) r h
  intro again hrec0 q r h
  exact k_M_foretold_78b hF hn X (fun x1 x2 x3 x5 x7 I r h => hrec0 (x1, x2, x3, x5, x7, I) r h)  h
set_option maxRecDepth 100000 in
set_option maxHeartbeats 4000000 in
theorem k_M_foretold_63 {p : Program} {l : Launch} {e : Env} {R : Room} {s : State} {m : MethodId} {args : Array Value} {below : List Frame} {meth : Method} {c : Code} {g : j_G} {b n : Nat} {P : j_R} {F : Nat} (hF : j_Fx 0 260 P) (hn : 260 ≤ n) (X : j_X p R s m args meth c g b 1 jb_M_foretold 9 "PleasureGardenModel" (some .int)) {kb27 : Int32 → Int32 → Int32 → j_M → Option (Int32 × j_M)} (hkb27 : ∀ (x1 : Int32) (x2 : Int32) (x3 : Int32) (I : j_M) (r : Int32 × j_M), kb27 x1 x2 x3 I = some r → j_W p l e R s m args below meth c 9 g b n 0 0 (j_Qi g b n P below args s r) I P 27 [some (.ref (b + 215)), some (.int x1), some (.int x2), some (.int x3), none, none, none, none, none] []) {x1 : Int32} {x3 : Int32} {s0 : Int32} {I : j_M} {r : Int32 × j_M}  (h : f_M_foretold_63 F kb27 x1 x3 s0 I = some r) : j_W p l e R s m args below meth c 9 g b n 0 0 (j_Qi g b n P below args s r) I P 63 [some (.ref (b + 215)), some (.int x1), none, some (.int x3), none, none, none, none, none] [.int s0] := by
  unfold f_M_foretold_63 at h
  refine j_istore_n (lv' := [some (.ref (b + 215)), some (.int x1), some (.int s0), some (.int x3), none, none, none, none, none]) X jd_M_foretold_63 rfl (by decide) rfl ?_
  obtain ⟨v7, ev7, h⟩ := j_ex h
  refine j_iinc (v := v7) (lv' := [some (.ref (b + 215)), some (.int x1), some (.int s0), some (.int v7), none, none, none, none, none]) X jd_M_foretold_64 rfl (by rw [ev7]; rfl) (by decide) rfl ?_
  refine j_goto (tgt := 27) X jd_M_foretold_67 rfl ?_
  exact hkb27 _ _ _ _ _ h
set_option maxRecDepth 100000 in
set_option maxHeartbeats 4000000 in
theorem k_M_foretold_27b {p : Program} {l : Launch} {e : Env} {R : Room} {s : State} {m : MethodId} {args : Array Value} {below : List Frame} {meth : Method} {c : Code} {g : j_G} {b n : Nat} {P : j_R} {F : Nat} (hF : j_Fx 0 260 P) (hn : 260 ≤ n) (X : j_X p R s m args meth c g b 1 jb_M_foretold 9 "PleasureGardenModel" (some .int)) {kb27 : Int32 → Int32 → Int32 → j_M → Option (Int32 × j_M)} (hkb27 : ∀ (x1 : Int32) (x2 : Int32) (x3 : Int32) (I : j_M) (r : Int32 × j_M), kb27 x1 x2 x3 I = some r → j_W p l e R s m args below meth c 9 g b n 0 0 (j_Qi g b n P below args s r) I P 27 [some (.ref (b + 215)), some (.int x1), some (.int x2), some (.int x3), none, none, none, none, none] []) {x1 : Int32} {x2 : Int32} {x3 : Int32} {I : j_M} {r : Int32 × j_M}  (h : f_M_foretold_27b F kb27 x1 x2 x3 I = some r) : j_W p l e R s m args below meth c 9 g b n 0 0 (j_Qi g b n P below args s r) I P 27 [some (.ref (b + 215)), some (.int x1), some (.int x2), some (.int x3), none, none, none, none, none] [] := by
  unfold f_M_foretold_27b at h
  refine j_iload_n X jd_M_foretold_27 rfl rfl ?_
  refine j_aload_n X jd_M_foretold_28 rfl rfl ?_
  refine j_get X jf_M_316 jk_12_1 js_215 (j_lt rfl hn) jd_M_foretold_29 ?_
  refine j_icmp_ge (tgt := 70) X jd_M_foretold_32 rfl h (fun h => ?_) (fun h => ?_)
  · refine j_lconst (v := 0) X jd_M_foretold_70 (by decide) ?_
    refine j_lstore_n (lv' := [some (.ref (b + 215)), some (.int x1), some (.int x2), some (.long 0), none, none, none, none, none]) X jd_M_foretold_71 rfl (by decide) rfl ?_
    refine j_lconst (v := 0) X jd_M_foretold_72 (by decide) ?_
    refine j_lstore (lv' := [some (.ref (b + 215)), some (.int x1), some (.int x2), some (.long 0), none, some (.long 0), none, none, none]) X jd_M_foretold_73 (by decide) rfl ?_
    refine j_iconst (v := 0) X jd_M_foretold_75 (by decide) ?_
    refine j_istore (lv' := [some (.ref (b + 215)), some (.int x1), some (.int x2), some (.long 0), none, some (.long 0), none, some (.int 0), none]) X jd_M_foretold_76 (by decide) rfl ?_
    exact k_M_foretold_78 hF hn X h
  · refine j_aload_n X jd_M_foretold_35 rfl rfl ?_
    refine j_getr X jf_M_140 jk_12_66 js_215 (j_lt rfl hn) (jp_215_66 hF) jd_M_foretold_36 ?_
    refine j_iload_n X jd_M_foretold_39 rfl rfl ?_
    refine j_iald X js_256 (j_lt rfl hn) jd_M_foretold_40 h (fun _ h => ?_)
    refine j_iload_n X jd_M_foretold_41 rfl rfl ?_
    refine j_callSi (As := [.int (I 256 (j_ix x3)), .int x1]) (st := []) X h ⟨jqc_M_off, jqs_M_off, jqn_M⟩ jlm_M_342 jh_M_off.2 rfl (by decide) (by decide) (Nat.le_of_ble_eq_true rfl) ⟨Nat.zero_le _, Nat.zero_le _⟩ (fun v0 I0 h => k_M_off (r := (v0, I0)) hF hn h) jd_M_foretold_42 rfl (fun v8 I9 h => ?_)
    refine j_iload_n X jd_M_foretold_45 rfl rfl ?_
    refine j_icmp_ge (tgt := 62) X jd_M_foretold_46 rfl h (fun h => ?_) (fun h => ?_)
    · refine j_iload_n X jd_M_foretold_62 rfl rfl ?_
      refine j_sub [true, true, false, true, false, false, false, false, false] (lv' := [some (.ref (b + 215)), some (.int x1), none, some (.int x3), none, none, none, none, none]) rfl ?_
      exact k_M_foretold_63 hF hn X hkb27 h
    · refine j_aload_n X jd_M_foretold_49 rfl rfl ?_
      refine j_getr X jf_M_140 jk_12_66 js_215 (j_lt rfl hn) (jp_215_66 hF) jd_M_foretold_50 ?_
      refine j_iload_n X jd_M_foretold_53 rfl rfl ?_
      refine j_iald X js_256 (j_lt rfl hn) jd_M_foretold_54 h (fun _ h => ?_)
      refine j_iload_n X jd_M_foretold_55 rfl rfl ?_
      refine j_callSi (As := [.int (I9 256 (j_ix x3)), .int x1]) (st := []) X h ⟨jqc_M_off, jqs_M_off, jqn_M⟩ jlm_M_342 jh_M_off.2 rfl (by decide) (by decide) (Nat.le_of_ble_eq_true rfl) ⟨Nat.zero_le _, Nat.zero_le _⟩ (fun v0 I0 h => k_M_off (r := (v0, I0)) hF hn h) jd_M_foretold_56 rfl (fun v10 I11 h => ?_)
      refine j_goto (tgt := 63) X jd_M_foretold_59 rfl ?_
      refine j_sub [true, true, false, true, false, false, false, false, false] (lv' := [some (.ref (b + 215)), some (.int x1), none, some (.int x3), none, none, none, none, none]) rfl ?_
      exact k_M_foretold_63 hF hn X hkb27 h
set_option maxRecDepth 100000 in
set_option maxHeartbeats 4000000 in
theorem k_M_foretold_27 {p : Program} {l : Launch} {e : Env} {R : Room} {s : State} {m : MethodId} {args : Array Value} {below : List Frame} {meth : Method} {c : Code} {g : j_G} {b n : Nat} {P : j_R} {F : Nat} (hF : j_Fx 0 260 P) (hn : 260 ≤ n) (X : j_X p R s m args meth c g b 1 jb_M_foretold 9 "PleasureGardenModel" (some .int))  {x1 : Int32} {x2 : Int32} {x3 : Int32} {I : j_M} {r : Int32 × j_M} (h : f_M_foretold_27 F x1 x2 x3 I = some r) : j_W p l e R s m args below meth c 9 g b n 0 0 (j_Qi g b n P below args s r) I P 27 [some (.ref (b + 215)), some (.int x1), some (.int x2), some (.int x3), none, none, none, none, none] [] := by
  refine j_loop (G := fun (q : Int32 × Int32 × Int32 × j_M) (r : Int32 × j_M) => j_W p l e R s m args below meth c 9 g b n 0 0 (j_Qi g b n P below args s r) q.2.2.2 P 27 [some (.ref (b + 215)), some (.int (q.1)), some (.int (q.2.1)), some (.int (q.2.2.1)), none, none, none, none, none] []) ?_ F (x1, x2, x3, I) r h
  intro again hrec0 q r h
  exact k_M_foretold_27b hF hn X (fun x1 x2 x3 I r h => hrec0 (x1, x2, x3, I) r h)  h
set_option maxRecDepth 100000 in
set_option maxHeartbeats 4000000 in
theorem k_M_foretold {l : Launch} {g : j_G} {b n : Nat} {P : j_R} {F : Nat} (hF : j_Fx 0 260 P) (hn : 260 ≤ n) {x1 : Int32} {I : j_M} {r : Int32 × j_M}  (h : f_M_foretold F x1 I = some r) : j_Met l g b n P 1 jy_M_foretold jb_M_foretold 9 (some .int) [.ref (b + 215), .int x1] I r.2 (some (.int r.1)) := by
  unfold f_M_foretold at h
  refine j_enter (plainFor_of_name (by decide)) (Nat.le_of_ble_eq_true rfl) [some (.ref (b + 215)), some (.int x1), none, none, none, none, none, none, none] rfl ?_
  intro p e R s m args below meth c X0 hnm hRc hRs
  have X : j_X p R s m args meth c g b 1 jb_M_foretold 9 "PleasureGardenModel" (some .int) := X0
  clear X0
  refine j_iload_n X jd_M_foretold_0 rfl rfl ?_
  refine j_iconst (v := 0) X jd_M_foretold_1 (by decide) ?_
  refine j_sipush (v := 480) X jd_M_foretold_2 (by decide) ?_
  refine j_callSi (As := [.int x1, .int 0, .int 480]) (st := []) X h ⟨jqc_M_among, jqs_M_among, jqn_M⟩ jlm_M_158 jh_M_among.2 rfl (by decide) (by decide) (Nat.le_of_ble_eq_true rfl) ⟨Nat.zero_le _, Nat.zero_le _⟩ (fun v0 I0 h => k_M_among (r := (v0, I0)) hF hn h) jd_M_foretold_5 rfl (fun v12 I13 h => ?_)
  refine j_if_eq (tgt := 18) X jd_M_foretold_8 rfl h (fun h => ?_) (fun h => ?_)
  · refine j_ldcw (v := (-2000000000)) X jlc_M_338 jd_M_foretold_18 ?_
    exact j_iret X rfl jd_M_foretold_21 h
  · refine j_aload_n X jd_M_foretold_11 rfl rfl ?_
    refine j_get X jf_M_316 jk_12_1 js_215 (j_lt rfl hn) jd_M_foretold_12 ?_
    refine j_if_ne (tgt := 22) X jd_M_foretold_15 rfl h (fun h => ?_) (fun h => ?_)
    · refine j_ldcw (v := (-2000000000)) X jlc_M_338 jd_M_foretold_18 ?_
      exact j_iret X rfl jd_M_foretold_21 h
    · refine j_ldc (v := 1000000) X jlc_M_166 jd_M_foretold_22 ?_
      refine j_istore_n (lv' := [some (.ref (b + 215)), some (.int x1), some (.int 1000000), none, none, none, none, none, none]) X jd_M_foretold_24 rfl (by decide) rfl ?_
      refine j_iconst (v := 0) X jd_M_foretold_25 (by decide) ?_
      refine j_istore_n (lv' := [some (.ref (b + 215)), some (.int x1), some (.int 1000000), some (.int 0), none, none, none, none, none]) X jd_M_foretold_26 rfl (by decide) rfl ?_
      exact k_M_foretold_27 hF hn X h
-- PleasureGardenModel.near(I)I
theorem jd_M_near_0 : decode jb_M_near 0 = .ok (.iload_n 1, 1) := by decide +kernel
theorem jd_M_near_1 : decode jb_M_near 1 = .ok (.iconst 0, 1) := by decide +kernel
theorem jd_M_near_2 : decode jb_M_near 2 = .ok (.aload_n 0, 1) := by decide +kernel
theorem jd_M_near_3 : decode jb_M_near 3 = .ok (.getfield 339, 3) := by decide +kernel
theorem jd_M_near_6 : decode jb_M_near 6 = .ok (.iconst 1, 1) := by decide +kernel
theorem jd_M_near_7 : decode jb_M_near 7 = .ok (.isub, 1) := by decide +kernel
theorem jd_M_near_8 : decode jb_M_near 8 = .ok (.invokestatic 158, 3) := by decide +kernel
theorem jd_M_near_11 : decode jb_M_near 11 = .ok (.ifCond .ne 5, 3) := by decide +kernel
theorem jd_M_near_14 : decode jb_M_near 14 = .ok (.iconst (-1), 1) := by decide +kernel
theorem jd_M_near_15 : decode jb_M_near 15 = .ok (.ireturn, 1) := by decide +kernel
theorem jd_M_near_16 : decode jb_M_near 16 = .ok (.iconst 0, 1) := by decide +kernel
theorem jd_M_near_17 : decode jb_M_near 17 = .ok (.istore_n 2, 1) := by decide +kernel
theorem jd_M_near_18 : decode jb_M_near 18 = .ok (.iconst 0, 1) := by decide +kernel
theorem jd_M_near_19 : decode jb_M_near 19 = .ok (.istore_n 3, 1) := by decide +kernel
theorem jd_M_near_20 : decode jb_M_near 20 = .ok (.iload_n 3, 1) := by decide +kernel
theorem jd_M_near_21 : decode jb_M_near 21 = .ok (.aload_n 0, 1) := by decide +kernel
theorem jd_M_near_22 : decode jb_M_near 22 = .ok (.getfield 180, 3) := by decide +kernel
theorem jd_M_near_25 : decode jb_M_near 25 = .ok (.if_icmp .ge 26, 3) := by decide +kernel
theorem jd_M_near_28 : decode jb_M_near 28 = .ok (.iload_n 2, 1) := by decide +kernel
theorem jd_M_near_29 : decode jb_M_near 29 = .ok (.aload_n 0, 1) := by decide +kernel
theorem jd_M_near_30 : decode jb_M_near 30 = .ok (.iload_n 3, 1) := by decide +kernel
theorem jd_M_near_31 : decode jb_M_near 31 = .ok (.iload_n 1, 1) := by decide +kernel
theorem jd_M_near_32 : decode jb_M_near 32 = .ok (.invokevirtual 346, 3) := by decide +kernel
theorem jd_M_near_35 : decode jb_M_near 35 = .ok (.ifCond .eq 7, 3) := by decide +kernel
theorem jd_M_near_38 : decode jb_M_near 38 = .ok (.iconst 1, 1) := by decide +kernel
theorem jd_M_near_39 : decode jb_M_near 39 = .ok (.goto 4, 3) := by decide +kernel
theorem jd_M_near_42 : decode jb_M_near 42 = .ok (.iconst 0, 1) := by decide +kernel
theorem jd_M_near_43 : decode jb_M_near 43 = .ok (.iadd, 1) := by decide +kernel
theorem jd_M_near_44 : decode jb_M_near 44 = .ok (.istore_n 2, 1) := by decide +kernel
theorem jd_M_near_45 : decode jb_M_near 45 = .ok (.iinc 3 1, 3) := by decide +kernel
theorem jd_M_near_48 : decode jb_M_near 48 = .ok (.goto (-28), 3) := by decide +kernel
theorem jd_M_near_51 : decode jb_M_near 51 = .ok (.iload_n 2, 1) := by decide +kernel
theorem jd_M_near_52 : decode jb_M_near 52 = .ok (.ireturn, 1) := by decide +kernel
def f_M_near_43 (F : Nat) (kb20 : Int32 → Int32 → Int32 → j_M → Option (Int32 × j_M)) (x1 : Int32) (x3 : Int32) (s0 : Int32) (s1 : Int32) (I : j_M) : Option (Int32 × j_M) := j_let (s0 + s1) (fun v1 => j_let (x3 + 1) (fun v2 => kb20 x1 v1 v2 I))
def f_M_near_20b (F : Nat) (kb20 : Int32 → Int32 → Int32 → j_M → Option (Int32 × j_M)) (x1 : Int32) (x2 : Int32) (x3 : Int32) (I : j_M) : Option (Int32 × j_M) := (if (I 215 12) ≤ x3 then some (x2, I) else j_bd (f_M_isNear F x3 x1 I) (fun v3 I4 => (if v3 = 0 then f_M_near_43 F kb20 x1 x3 x2 0 I4 else f_M_near_43 F kb20 x1 x3 x2 1 I4)))
def f_M_near_20 (F : Nat)  (x1 : Int32) (x2 : Int32) (x3 : Int32) (I : j_M) : Option (Int32 × j_M) := j_it (fun (again : Int32 × Int32 × Int32 × j_M → Option (Int32 × j_M)) (q : Int32 × Int32 × Int32 × j_M) => f_M_near_20b F  (fun x1 x2 x3 I => again (x1, x2, x3, I))  q.1 q.2.1 q.2.2.1 q.2.2.2) F (x1, x2, x3, I)
def f_M_near (F : Nat) (x1 : Int32) (I : j_M) : Option (Int32 × j_M) := j_bd (f_M_among F x1 0 ((I 215 68) - 1) I) (fun v5 I6 => (if v5 = 0 then some ((-1), I6) else f_M_near_20 F x1 0 0 I6))
set_option maxRecDepth 100000 in
set_option maxHeartbeats 4000000 in
theorem k_M_near_43 {p : Program} {l : Launch} {e : Env} {R : Room} {s : State} {m : MethodId} {args : Array Value} {below : List Frame} {meth : Method} {c : Code} {g : j_G} {b n : Nat} {P : j_R} {F : Nat} (hF : j_Fx 0 260 P) (hn : 260 ≤ n) (X : j_X p R s m args meth c g b 1 jb_M_near 4 "PleasureGardenModel" (some .int)) {kb20 : Int32 → Int32 → Int32 → j_M → Option (Int32 × j_M)} (hkb20 : ∀ (x1 : Int32) (x2 : Int32) (x3 : Int32) (I : j_M) (r : Int32 × j_M), kb20 x1 x2 x3 I = some r → j_W p l e R s m args below meth c 4 g b n 0 0 (j_Qi g b n P below args s r) I P 20 [some (.ref (b + 215)), some (.int x1), some (.int x2), some (.int x3)] []) {x1 : Int32} {x3 : Int32} {s0 : Int32} {s1 : Int32} {I : j_M} {r : Int32 × j_M}  (h : f_M_near_43 F kb20 x1 x3 s0 s1 I = some r) : j_W p l e R s m args below meth c 4 g b n 0 0 (j_Qi g b n P below args s r) I P 43 [some (.ref (b + 215)), some (.int x1), none, some (.int x3)] [.int s1, .int s0] := by
  unfold f_M_near_43 at h
  refine j_iadd X jd_M_near_43 ?_
  refine j_nm h (fun v1 h => ?_)
  refine j_istore_n (lv' := [some (.ref (b + 215)), some (.int x1), some (.int v1), some (.int x3)]) X jd_M_near_44 rfl (by decide) rfl ?_
  obtain ⟨v2, ev2, h⟩ := j_ex h
  refine j_iinc (v := v2) (lv' := [some (.ref (b + 215)), some (.int x1), some (.int v1), some (.int v2)]) X jd_M_near_45 rfl (by rw [ev2]; rfl) (by decide) rfl ?_
  refine j_goto (tgt := 20) X jd_M_near_48 rfl ?_
  exact hkb20 _ _ _ _ _ h
set_option maxRecDepth 100000 in
set_option maxHeartbeats 4000000 in
theorem k_M_near_20b {p : Program} {l : Launch} {e : Env} {R : Room} {s : State} {m : MethodId} {args : Array Value} {below : List Frame} {meth : Method} {c : Code} {g : j_G} {b n : Nat} {P : j_R} {F : Nat} (hF : j_Fx 0 260 P) (hn : 260 ≤ n) (X : j_X p R s m args meth c g b 1 jb_M_near 4 "PleasureGardenModel" (some .int)) {kb20 : Int32 → Int32 → Int32 → j_M → Option (Int32 × j_M)} (hkb20 : ∀ (x1 : Int32) (x2 : Int32) (x3 : Int32) (I : j_M) (r : Int32 × j_M), kb20 x1 x2 x3 I = some r → j_W p l e R s m args below meth c 4 g b n 0 0 (j_Qi g b n P below args s r) I P 20 [some (.ref (b + 215)), some (.int x1), some (.int x2), some (.int x3)] []) {x1 : Int32} {x2 : Int32} {x3 : Int32} {I : j_M} {r : Int32 × j_M}  (h : f_M_near_20b F kb20 x1 x2 x3 I = some r) : j_W p l e R s m args below meth c 4 g b n 0 0 (j_Qi g b n P below args s r) I P 20 [some (.ref (b + 215)), some (.int x1), some (.int x2), some (.int x3)] [] := by
  unfold f_M_near_20b at h
  refine j_iload_n X jd_M_near_20 rfl rfl ?_
  refine j_aload_n X jd_M_near_21 rfl rfl ?_
  refine j_get X jf_M_180 jk_12_12 js_215 (j_lt rfl hn) jd_M_near_22 ?_
  refine j_icmp_ge (tgt := 51) X jd_M_near_25 rfl h (fun h => ?_) (fun h => ?_)
  · refine j_iload_n X jd_M_near_51 rfl rfl ?_
    exact j_iret X rfl jd_M_near_52 h
  · refine j_iload_n X jd_M_near_28 rfl rfl ?_
    refine j_aload_n X jd_M_near_29 rfl rfl ?_
    refine j_iload_n X jd_M_near_30 rfl rfl ?_
    refine j_iload_n X jd_M_near_31 rfl rfl ?_
    refine j_callVi (As := [.int x3, .int x1]) (st := [.int x2]) (c0 := 215) X h jc_M js_215 (j_lt rfl hn) ⟨jqc_M_isNear, jqi_M_isNear, jqv_M_isNear, jqn_M⟩ jlm_M_346 jh_M_isNear rfl (by decide) (by decide) (Nat.le_of_ble_eq_true rfl) ⟨Nat.zero_le _, Nat.zero_le _⟩ (fun v0 I0 h => k_M_isNear (r := (v0, I0)) hF hn h) jd_M_near_32 rfl (fun v3 I4 h => ?_)
    refine j_if_eq (tgt := 42) X jd_M_near_35 rfl h (fun h => ?_) (fun h => ?_)
    · refine j_iconst (v := 0) X jd_M_near_42 (by decide) ?_
      refine j_sub [true, true, false, true] (lv' := [some (.ref (b + 215)), some (.int x1), none, some (.int x3)]) rfl ?_
      exact k_M_near_43 hF hn X hkb20 h
    · refine j_iconst (v := 1) X jd_M_near_38 (by decide) ?_
      refine j_goto (tgt := 43) X jd_M_near_39 rfl ?_
      refine j_sub [true, true, false, true] (lv' := [some (.ref (b + 215)), some (.int x1), none, some (.int x3)]) rfl ?_
      exact k_M_near_43 hF hn X hkb20 h
set_option maxRecDepth 100000 in
set_option maxHeartbeats 4000000 in
theorem k_M_near_20 {p : Program} {l : Launch} {e : Env} {R : Room} {s : State} {m : MethodId} {args : Array Value} {below : List Frame} {meth : Method} {c : Code} {g : j_G} {b n : Nat} {P : j_R} {F : Nat} (hF : j_Fx 0 260 P) (hn : 260 ≤ n) (X : j_X p R s m args meth c g b 1 jb_M_near 4 "PleasureGardenModel" (some .int))  {x1 : Int32} {x2 : Int32} {x3 : Int32} {I : j_M} {r : Int32 × j_M} (h : f_M_near_20 F x1 x2 x3 I = some r) : j_W p l e R s m args below meth c 4 g b n 0 0 (j_Qi g b n P below args s r) I P 20 [some (.ref (b + 215)), some (.int x1), some (.int x2), some (.int x3)] [] := by
  refine j_loop (G := fun (q : Int32 × Int32 × Int32 × j_M) (r : Int32 × j_M) => j_W p l e R s m args below meth c 4 g b n 0 0 (j_Qi g b n P below args s r) q.2.2.2 P 20 [some (.ref (b + 215)), some (.int (q.1)), some (.int (q.2.1)), some (.int (q.2.2.1))] []) ?_ F (x1, x2, x3, I) r h
  intro again hrec0 q r h
  exact k_M_near_20b hF hn X (fun x1 x2 x3 I r h => hrec0 (x1, x2, x3, I) r h)  h
set_option maxRecDepth 100000 in
set_option maxHeartbeats 4000000 in
theorem k_M_near {l : Launch} {g : j_G} {b n : Nat} {P : j_R} {F : Nat} (hF : j_Fx 0 260 P) (hn : 260 ≤ n) {x1 : Int32} {I : j_M} {r : Int32 × j_M}  (h : f_M_near F x1 I = some r) : j_Met l g b n P 1 jy_M_near jb_M_near 4 (some .int) [.ref (b + 215), .int x1] I r.2 (some (.int r.1)) := by
  unfold f_M_near at h
  refine j_enter (plainFor_of_name (by decide)) (Nat.le_of_ble_eq_true rfl) [some (.ref (b + 215)), some (.int x1), none, none] rfl ?_
  intro p e R s m args below meth c X0 hnm hRc hRs
  have X : j_X p R s m args meth c g b 1 jb_M_near 4 "PleasureGardenModel" (some .int) := X0
  clear X0
  refine j_iload_n X jd_M_near_0 rfl rfl ?_
  refine j_iconst (v := 0) X jd_M_near_1 (by decide) ?_
  refine j_aload_n X jd_M_near_2 rfl rfl ?_
  refine j_get X jf_M_339 jk_12_68 js_215 (j_lt rfl hn) jd_M_near_3 ?_
  refine j_iconst (v := 1) X jd_M_near_6 (by decide) ?_
  refine j_isub X jd_M_near_7 ?_
  refine j_callSi (As := [.int x1, .int 0, .int ((I 215 68) - 1)]) (st := []) X h ⟨jqc_M_among, jqs_M_among, jqn_M⟩ jlm_M_158 jh_M_among.2 rfl (by decide) (by decide) (Nat.le_of_ble_eq_true rfl) ⟨Nat.zero_le _, Nat.zero_le _⟩ (fun v0 I0 h => k_M_among (r := (v0, I0)) hF hn h) jd_M_near_8 rfl (fun v5 I6 h => ?_)
  refine j_if_ne (tgt := 16) X jd_M_near_11 rfl h (fun h => ?_) (fun h => ?_)
  · refine j_iconst (v := (-1)) X jd_M_near_14 (by decide) ?_
    exact j_iret X rfl jd_M_near_15 h
  · refine j_iconst (v := 0) X jd_M_near_16 (by decide) ?_
    refine j_istore_n (lv' := [some (.ref (b + 215)), some (.int x1), some (.int 0), none]) X jd_M_near_17 rfl (by decide) rfl ?_
    refine j_iconst (v := 0) X jd_M_near_18 (by decide) ?_
    refine j_istore_n (lv' := [some (.ref (b + 215)), some (.int x1), some (.int 0), some (.int 0)]) X jd_M_near_19 rfl (by decide) rfl ?_
    exact k_M_near_20 hF hn X h
-- PleasureGardenModel.count(I)I
theorem jd_M_count_0 : decode jb_M_count 0 = .ok (.iload_n 1, 1) := by decide +kernel
theorem jd_M_count_1 : decode jb_M_count 1 = .ok (.tableswitch 159 0 15 #[79, 84, 89, 94, 99, 104, 109, 114, 119, 124, 129, 134, 139, 144, 149, 154], 79) := by decide +kernel
theorem jd_M_count_80 : decode jb_M_count 80 = .ok (.aload_n 0, 1) := by decide +kernel
theorem jd_M_count_81 : decode jb_M_count 81 = .ok (.getfield 155, 3) := by decide +kernel
theorem jd_M_count_84 : decode jb_M_count 84 = .ok (.ireturn, 1) := by decide +kernel
theorem jd_M_count_85 : decode jb_M_count 85 = .ok (.aload_n 0, 1) := by decide +kernel
theorem jd_M_count_86 : decode jb_M_count 86 = .ok (.getfield 180, 3) := by decide +kernel
theorem jd_M_count_89 : decode jb_M_count 89 = .ok (.ireturn, 1) := by decide +kernel
theorem jd_M_count_90 : decode jb_M_count 90 = .ok (.aload_n 0, 1) := by decide +kernel
theorem jd_M_count_91 : decode jb_M_count 91 = .ok (.invokevirtual 328, 3) := by decide +kernel
theorem jd_M_count_94 : decode jb_M_count 94 = .ok (.ireturn, 1) := by decide +kernel
theorem jd_M_count_95 : decode jb_M_count 95 = .ok (.aload_n 0, 1) := by decide +kernel
theorem jd_M_count_96 : decode jb_M_count 96 = .ok (.getfield 232, 3) := by decide +kernel
theorem jd_M_count_99 : decode jb_M_count 99 = .ok (.ireturn, 1) := by decide +kernel
theorem jd_M_count_100 : decode jb_M_count 100 = .ok (.aload_n 0, 1) := by decide +kernel
theorem jd_M_count_101 : decode jb_M_count 101 = .ok (.getfield 238, 3) := by decide +kernel
theorem jd_M_count_104 : decode jb_M_count 104 = .ok (.ireturn, 1) := by decide +kernel
theorem jd_M_count_105 : decode jb_M_count 105 = .ok (.aload_n 0, 1) := by decide +kernel
theorem jd_M_count_106 : decode jb_M_count 106 = .ok (.getfield 257, 3) := by decide +kernel
theorem jd_M_count_109 : decode jb_M_count 109 = .ok (.ireturn, 1) := by decide +kernel
theorem jd_M_count_110 : decode jb_M_count 110 = .ok (.aload_n 0, 1) := by decide +kernel
theorem jd_M_count_111 : decode jb_M_count 111 = .ok (.getfield 196, 3) := by decide +kernel
theorem jd_M_count_114 : decode jb_M_count 114 = .ok (.ireturn, 1) := by decide +kernel
theorem jd_M_count_115 : decode jb_M_count 115 = .ok (.aload_n 0, 1) := by decide +kernel
theorem jd_M_count_116 : decode jb_M_count 116 = .ok (.getfield 266, 3) := by decide +kernel
theorem jd_M_count_119 : decode jb_M_count 119 = .ok (.ireturn, 1) := by decide +kernel
theorem jd_M_count_120 : decode jb_M_count 120 = .ok (.aload_n 0, 1) := by decide +kernel
theorem jd_M_count_121 : decode jb_M_count 121 = .ok (.getfield 310, 3) := by decide +kernel
theorem jd_M_count_124 : decode jb_M_count 124 = .ok (.ireturn, 1) := by decide +kernel
theorem jd_M_count_125 : decode jb_M_count 125 = .ok (.aload_n 0, 1) := by decide +kernel
theorem jd_M_count_126 : decode jb_M_count 126 = .ok (.getfield 316, 3) := by decide +kernel
theorem jd_M_count_129 : decode jb_M_count 129 = .ok (.ireturn, 1) := by decide +kernel
theorem jd_M_count_130 : decode jb_M_count 130 = .ok (.aload_n 0, 1) := by decide +kernel
theorem jd_M_count_131 : decode jb_M_count 131 = .ok (.getfield 171, 3) := by decide +kernel
theorem jd_M_count_134 : decode jb_M_count 134 = .ok (.ireturn, 1) := by decide +kernel
theorem jd_M_count_135 : decode jb_M_count 135 = .ok (.aload_n 0, 1) := by decide +kernel
theorem jd_M_count_136 : decode jb_M_count 136 = .ok (.getfield 273, 3) := by decide +kernel
theorem jd_M_count_139 : decode jb_M_count 139 = .ok (.ireturn, 1) := by decide +kernel
theorem jd_M_count_140 : decode jb_M_count 140 = .ok (.aload_n 0, 1) := by decide +kernel
theorem jd_M_count_141 : decode jb_M_count 141 = .ok (.getfield 186, 3) := by decide +kernel
theorem jd_M_count_144 : decode jb_M_count 144 = .ok (.ireturn, 1) := by decide +kernel
theorem jd_M_count_145 : decode jb_M_count 145 = .ok (.aload_n 0, 1) := by decide +kernel
theorem jd_M_count_146 : decode jb_M_count 146 = .ok (.getfield 229, 3) := by decide +kernel
theorem jd_M_count_149 : decode jb_M_count 149 = .ok (.ireturn, 1) := by decide +kernel
theorem jd_M_count_150 : decode jb_M_count 150 = .ok (.aload_n 0, 1) := by decide +kernel
theorem jd_M_count_151 : decode jb_M_count 151 = .ok (.getfield 193, 3) := by decide +kernel
theorem jd_M_count_154 : decode jb_M_count 154 = .ok (.ireturn, 1) := by decide +kernel
theorem jd_M_count_155 : decode jb_M_count 155 = .ok (.aload_n 0, 1) := by decide +kernel
theorem jd_M_count_156 : decode jb_M_count 156 = .ok (.getfield 270, 3) := by decide +kernel
theorem jd_M_count_159 : decode jb_M_count 159 = .ok (.ireturn, 1) := by decide +kernel
theorem jd_M_count_160 : decode jb_M_count 160 = .ok (.iconst (-1), 1) := by decide +kernel
theorem jd_M_count_161 : decode jb_M_count 161 = .ok (.ireturn, 1) := by decide +kernel
def f_M_count (F : Nat) (x1 : Int32) (I : j_M) : Option (Int32 × j_M) := (if x1 = 0 then some (I 215 3, I) else (if x1 = 1 then some (I 215 12, I) else (if x1 = 2 then j_bd (f_M_headsIn F I) (fun v4 I5 => some (v4, I5)) else (if x1 = 3 then some (I 215 28, I) else (if x1 = 4 then some (I 215 30, I) else (if x1 = 5 then some (I 215 40, I) else (if x1 = 6 then some (I 215 46, I) else (if x1 = 7 then some (I 215 43, I) else (if x1 = 8 then some (I 215 52, I) else (if x1 = 9 then some (I 215 1, I) else (if x1 = 10 then some (I 215 2, I) else (if x1 = 11 then some (I 215 51, I) else (if x1 = 12 then some (I 215 24, I) else (if x1 = 13 then some (I 215 25, I) else (if x1 = 14 then some (I 215 26, I) else (if x1 = 15 then some (I 215 27, I) else some ((-1), I)))))))))))))))))
set_option maxRecDepth 100000 in
set_option maxHeartbeats 4000000 in
theorem k_M_count {l : Launch} {g : j_G} {b n : Nat} {P : j_R} {F : Nat} (hF : j_Fx 0 260 P) (hn : 260 ≤ n) {x1 : Int32} {I : j_M} {r : Int32 × j_M}  (h : f_M_count F x1 I = some r) : j_Met l g b n P 1 jy_M_count jb_M_count 2 (some .int) [.ref (b + 215), .int x1] I r.2 (some (.int r.1)) := by
  unfold f_M_count at h
  refine j_enter (plainFor_of_name (by decide)) (Nat.le_of_ble_eq_true rfl) [some (.ref (b + 215)), some (.int x1)] rfl ?_
  intro p e R s m args below meth c X0 hnm hRc hRs
  have X : j_X p R s m args meth c g b 1 jb_M_count 2 "PleasureGardenModel" (some .int) := X0
  clear X0
  refine j_iload_n X jd_M_count_0 rfl rfl ?_
  refine j_ite h (fun e1 h => ?_) (fun e1 h => ?_)
  · refine j_tableIn (tgt := 80) (off := 79) X jd_M_count_1 e1 (by decide) (by decide) (by decide) rfl ?_
    refine j_aload_n X jd_M_count_80 rfl rfl ?_
    refine j_get X jf_M_155 jk_12_3 js_215 (j_lt rfl hn) jd_M_count_81 ?_
    exact j_iret X rfl jd_M_count_84 h
  · refine j_ite h (fun e2 h => ?_) (fun e2 h => ?_)
    · refine j_tableIn (tgt := 85) (off := 84) X jd_M_count_1 e2 (by decide) (by decide) (by decide) rfl ?_
      refine j_aload_n X jd_M_count_85 rfl rfl ?_
      refine j_get X jf_M_180 jk_12_12 js_215 (j_lt rfl hn) jd_M_count_86 ?_
      exact j_iret X rfl jd_M_count_89 h
    · refine j_ite h (fun e3 h => ?_) (fun e3 h => ?_)
      · refine j_tableIn (tgt := 90) (off := 89) X jd_M_count_1 e3 (by decide) (by decide) (by decide) rfl ?_
        refine j_aload_n X jd_M_count_90 rfl rfl ?_
        refine j_callVi (As := []) (st := []) (c0 := 215) X h jc_M js_215 (j_lt rfl hn) ⟨jqc_M_headsIn, jqi_M_headsIn, jqv_M_headsIn, jqn_M⟩ jlm_M_328 jh_M_headsIn rfl (by decide) (by decide) (Nat.le_of_ble_eq_true rfl) ⟨Nat.zero_le _, Nat.zero_le _⟩ (fun v0 I0 h => k_M_headsIn (r := (v0, I0)) hF hn h) jd_M_count_91 rfl (fun v4 I5 h => ?_)
        exact j_iret X rfl jd_M_count_94 h
      · refine j_ite h (fun e6 h => ?_) (fun e6 h => ?_)
        · refine j_tableIn (tgt := 95) (off := 94) X jd_M_count_1 e6 (by decide) (by decide) (by decide) rfl ?_
          refine j_aload_n X jd_M_count_95 rfl rfl ?_
          refine j_get X jf_M_232 jk_12_28 js_215 (j_lt rfl hn) jd_M_count_96 ?_
          exact j_iret X rfl jd_M_count_99 h
        · refine j_ite h (fun e7 h => ?_) (fun e7 h => ?_)
          · refine j_tableIn (tgt := 100) (off := 99) X jd_M_count_1 e7 (by decide) (by decide) (by decide) rfl ?_
            refine j_aload_n X jd_M_count_100 rfl rfl ?_
            refine j_get X jf_M_238 jk_12_30 js_215 (j_lt rfl hn) jd_M_count_101 ?_
            exact j_iret X rfl jd_M_count_104 h
          · refine j_ite h (fun e8 h => ?_) (fun e8 h => ?_)
            · refine j_tableIn (tgt := 105) (off := 104) X jd_M_count_1 e8 (by decide) (by decide) (by decide) rfl ?_
              refine j_aload_n X jd_M_count_105 rfl rfl ?_
              refine j_get X jf_M_257 jk_12_40 js_215 (j_lt rfl hn) jd_M_count_106 ?_
              exact j_iret X rfl jd_M_count_109 h
            · refine j_ite h (fun e9 h => ?_) (fun e9 h => ?_)
              · refine j_tableIn (tgt := 110) (off := 109) X jd_M_count_1 e9 (by decide) (by decide) (by decide) rfl ?_
                refine j_aload_n X jd_M_count_110 rfl rfl ?_
                refine j_get X jf_M_196 jk_12_46 js_215 (j_lt rfl hn) jd_M_count_111 ?_
                exact j_iret X rfl jd_M_count_114 h
              · refine j_ite h (fun e10 h => ?_) (fun e10 h => ?_)
                · refine j_tableIn (tgt := 115) (off := 114) X jd_M_count_1 e10 (by decide) (by decide) (by decide) rfl ?_
                  refine j_aload_n X jd_M_count_115 rfl rfl ?_
                  refine j_get X jf_M_266 jk_12_43 js_215 (j_lt rfl hn) jd_M_count_116 ?_
                  exact j_iret X rfl jd_M_count_119 h
                · refine j_ite h (fun e11 h => ?_) (fun e11 h => ?_)
                  · refine j_tableIn (tgt := 120) (off := 119) X jd_M_count_1 e11 (by decide) (by decide) (by decide) rfl ?_
                    refine j_aload_n X jd_M_count_120 rfl rfl ?_
                    refine j_get X jf_M_310 jk_12_52 js_215 (j_lt rfl hn) jd_M_count_121 ?_
                    exact j_iret X rfl jd_M_count_124 h
                  · refine j_ite h (fun e12 h => ?_) (fun e12 h => ?_)
                    · refine j_tableIn (tgt := 125) (off := 124) X jd_M_count_1 e12 (by decide) (by decide) (by decide) rfl ?_
                      refine j_aload_n X jd_M_count_125 rfl rfl ?_
                      refine j_get X jf_M_316 jk_12_1 js_215 (j_lt rfl hn) jd_M_count_126 ?_
                      exact j_iret X rfl jd_M_count_129 h
                    · refine j_ite h (fun e13 h => ?_) (fun e13 h => ?_)
                      · refine j_tableIn (tgt := 130) (off := 129) X jd_M_count_1 e13 (by decide) (by decide) (by decide) rfl ?_
                        refine j_aload_n X jd_M_count_130 rfl rfl ?_
                        refine j_get X jf_M_171 jk_12_2 js_215 (j_lt rfl hn) jd_M_count_131 ?_
                        exact j_iret X rfl jd_M_count_134 h
                      · refine j_ite h (fun e14 h => ?_) (fun e14 h => ?_)
                        · refine j_tableIn (tgt := 135) (off := 134) X jd_M_count_1 e14 (by decide) (by decide) (by decide) rfl ?_
                          refine j_aload_n X jd_M_count_135 rfl rfl ?_
                          refine j_get X jf_M_273 jk_12_51 js_215 (j_lt rfl hn) jd_M_count_136 ?_
                          exact j_iret X rfl jd_M_count_139 h
                        · refine j_ite h (fun e15 h => ?_) (fun e15 h => ?_)
                          · refine j_tableIn (tgt := 140) (off := 139) X jd_M_count_1 e15 (by decide) (by decide) (by decide) rfl ?_
                            refine j_aload_n X jd_M_count_140 rfl rfl ?_
                            refine j_get X jf_M_186 jk_12_24 js_215 (j_lt rfl hn) jd_M_count_141 ?_
                            exact j_iret X rfl jd_M_count_144 h
                          · refine j_ite h (fun e16 h => ?_) (fun e16 h => ?_)
                            · refine j_tableIn (tgt := 145) (off := 144) X jd_M_count_1 e16 (by decide) (by decide) (by decide) rfl ?_
                              refine j_aload_n X jd_M_count_145 rfl rfl ?_
                              refine j_get X jf_M_229 jk_12_25 js_215 (j_lt rfl hn) jd_M_count_146 ?_
                              exact j_iret X rfl jd_M_count_149 h
                            · refine j_ite h (fun e17 h => ?_) (fun e17 h => ?_)
                              · refine j_tableIn (tgt := 150) (off := 149) X jd_M_count_1 e17 (by decide) (by decide) (by decide) rfl ?_
                                refine j_aload_n X jd_M_count_150 rfl rfl ?_
                                refine j_get X jf_M_193 jk_12_26 js_215 (j_lt rfl hn) jd_M_count_151 ?_
                                exact j_iret X rfl jd_M_count_154 h
                              · refine j_ite h (fun e18 h => ?_) (fun e18 h => ?_)
                                · refine j_tableIn (tgt := 155) (off := 154) X jd_M_count_1 e18 (by decide) (by decide) (by decide) rfl ?_
                                  refine j_aload_n X jd_M_count_155 rfl rfl ?_
                                  refine j_get X jf_M_270 jk_12_27 js_215 (j_lt rfl hn) jd_M_count_156 ?_
                                  exact j_iret X rfl jd_M_count_159 h
                                · refine j_tableDef (tgt := 160) X [0, 1, 2, 3, 4, 5, 6, 7, 8, 9, 10, 11, 12, 13, 14, 15] jd_M_count_1 (j_allc e1 (j_allc e2 (j_allc e3 (j_allc e6 (j_allc e7 (j_allc e8 (j_allc e9 (j_allc e10 (j_allc e11 (j_allc e12 (j_allc e13 (j_allc e14 (j_allc e15 (j_allc e16 (j_allc e17 (j_allc e18 j_all0)))))))))))))))) (by decide) (by decide) (by decide) (by decide) rfl ?_
                                  refine j_iconst (v := (-1)) X jd_M_count_160 (by decide) ?_
                                  exact j_iret X rfl jd_M_count_161 h
