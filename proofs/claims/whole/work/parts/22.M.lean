-- PleasureGardenModel.walk(III)I
theorem jd_M_walk_0 : decode jb_M_walk 0 = .ok (.aload_n 0, 1) := by decide +kernel
theorem jd_M_walk_1 : decode jb_M_walk 1 = .ok (.iload_n 1, 1) := by decide +kernel
theorem jd_M_walk_2 : decode jb_M_walk 2 = .ok (.invokevirtual 162, 3) := by decide +kernel
theorem jd_M_walk_5 : decode jb_M_walk 5 = .ok (.ifCond .eq 26, 3) := by decide +kernel
theorem jd_M_walk_8 : decode jb_M_walk 8 = .ok (.aload_n 0, 1) := by decide +kernel
theorem jd_M_walk_9 : decode jb_M_walk 9 = .ok (.iload_n 2, 1) := by decide +kernel
theorem jd_M_walk_10 : decode jb_M_walk 10 = .ok (.invokevirtual 162, 3) := by decide +kernel
theorem jd_M_walk_13 : decode jb_M_walk 13 = .ok (.ifCond .eq 18, 3) := by decide +kernel
theorem jd_M_walk_16 : decode jb_M_walk 16 = .ok (.iload_n 1, 1) := by decide +kernel
theorem jd_M_walk_17 : decode jb_M_walk 17 = .ok (.iload_n 2, 1) := by decide +kernel
theorem jd_M_walk_18 : decode jb_M_walk 18 = .ok (.if_icmp .eq 13, 3) := by decide +kernel
theorem jd_M_walk_21 : decode jb_M_walk 21 = .ok (.iload_n 3, 1) := by decide +kernel
theorem jd_M_walk_22 : decode jb_M_walk 22 = .ok (.iconst 0, 1) := by decide +kernel
theorem jd_M_walk_23 : decode jb_M_walk 23 = .ok (.bipush 60, 2) := by decide +kernel
theorem jd_M_walk_25 : decode jb_M_walk 25 = .ok (.invokestatic 158, 3) := by decide +kernel
theorem jd_M_walk_28 : decode jb_M_walk 28 = .ok (.ifCond .ne 5, 3) := by decide +kernel
theorem jd_M_walk_31 : decode jb_M_walk 31 = .ok (.iconst (-1), 1) := by decide +kernel
theorem jd_M_walk_32 : decode jb_M_walk 32 = .ok (.ireturn, 1) := by decide +kernel
theorem jd_M_walk_33 : decode jb_M_walk 33 = .ok (.aload_n 0, 1) := by decide +kernel
theorem jd_M_walk_34 : decode jb_M_walk 34 = .ok (.getfield 17, 3) := by decide +kernel
theorem jd_M_walk_37 : decode jb_M_walk 37 = .ok (.bipush 16, 2) := by decide +kernel
theorem jd_M_walk_39 : decode jb_M_walk 39 = .ok (.iload_n 1, 1) := by decide +kernel
theorem jd_M_walk_40 : decode jb_M_walk 40 = .ok (.imul, 1) := by decide +kernel
theorem jd_M_walk_41 : decode jb_M_walk 41 = .ok (.iload_n 2, 1) := by decide +kernel
theorem jd_M_walk_42 : decode jb_M_walk 42 = .ok (.iadd, 1) := by decide +kernel
theorem jd_M_walk_43 : decode jb_M_walk 43 = .ok (.iaload, 1) := by decide +kernel
theorem jd_M_walk_44 : decode jb_M_walk 44 = .ok (.istore 4, 2) := by decide +kernel
theorem jd_M_walk_46 : decode jb_M_walk 46 = .ok (.aload_n 0, 1) := by decide +kernel
theorem jd_M_walk_47 : decode jb_M_walk 47 = .ok (.getfield 17, 3) := by decide +kernel
theorem jd_M_walk_50 : decode jb_M_walk 50 = .ok (.bipush 16, 2) := by decide +kernel
theorem jd_M_walk_52 : decode jb_M_walk 52 = .ok (.iload_n 1, 1) := by decide +kernel
theorem jd_M_walk_53 : decode jb_M_walk 53 = .ok (.imul, 1) := by decide +kernel
theorem jd_M_walk_54 : decode jb_M_walk 54 = .ok (.iload_n 2, 1) := by decide +kernel
theorem jd_M_walk_55 : decode jb_M_walk 55 = .ok (.iadd, 1) := by decide +kernel
theorem jd_M_walk_56 : decode jb_M_walk 56 = .ok (.iload_n 3, 1) := by decide +kernel
theorem jd_M_walk_57 : decode jb_M_walk 57 = .ok (.iastore, 1) := by decide +kernel
theorem jd_M_walk_58 : decode jb_M_walk 58 = .ok (.aload_n 0, 1) := by decide +kernel
theorem jd_M_walk_59 : decode jb_M_walk 59 = .ok (.getfield 17, 3) := by decide +kernel
theorem jd_M_walk_62 : decode jb_M_walk 62 = .ok (.bipush 16, 2) := by decide +kernel
theorem jd_M_walk_64 : decode jb_M_walk 64 = .ok (.iload_n 2, 1) := by decide +kernel
theorem jd_M_walk_65 : decode jb_M_walk 65 = .ok (.imul, 1) := by decide +kernel
theorem jd_M_walk_66 : decode jb_M_walk 66 = .ok (.iload_n 1, 1) := by decide +kernel
theorem jd_M_walk_67 : decode jb_M_walk 67 = .ok (.iadd, 1) := by decide +kernel
theorem jd_M_walk_68 : decode jb_M_walk 68 = .ok (.iload_n 3, 1) := by decide +kernel
theorem jd_M_walk_69 : decode jb_M_walk 69 = .ok (.iastore, 1) := by decide +kernel
theorem jd_M_walk_70 : decode jb_M_walk 70 = .ok (.iload 4, 2) := by decide +kernel
theorem jd_M_walk_72 : decode jb_M_walk 72 = .ok (.ireturn, 1) := by decide +kernel
def f_M_walk (F : Nat) (x1 : Int32) (x2 : Int32) (x3 : Int32) (I : j_M) : Option (Int32 × j_M) := j_bd (f_M_isPlace F x1 I) (fun v1 I2 => (if v1 = 0 then some ((-1), I2) else j_bd (f_M_isPlace F x2 I2) (fun v3 I4 => (if v3 = 0 then some ((-1), I4) else (if x1 = x2 then some ((-1), I4) else j_bd (f_M_among F x3 0 60 I4) (fun v5 I6 => (if v5 = 0 then some ((-1), I6) else (if j_ok ((16 * x1) + x2) 256 = true then j_let (I6 218 (j_ix ((16 * x1) + x2))) (fun v7 => (if j_ok ((16 * x1) + x2) 256 = true then j_let (j_wr I6 218 (j_ix ((16 * x1) + x2)) x3) (fun I8 => (if j_ok ((16 * x2) + x1) 256 = true then j_let (j_wr I8 218 (j_ix ((16 * x2) + x1)) x3) (fun I9 => some (v7, I9)) else none)) else none)) else none))))))))
set_option maxRecDepth 100000 in
set_option maxHeartbeats 4000000 in
theorem k_M_walk {l : Launch} {g : j_G} {b n : Nat} {P : j_R} {F : Nat} (hF : j_Fx 0 260 P) (hn : 260 ≤ n) {x1 : Int32} {x2 : Int32} {x3 : Int32} {I : j_M} {r : Int32 × j_M}  (h : f_M_walk F x1 x2 x3 I = some r) : j_Met l g b n P 2 jy_M_walk jb_M_walk 5 (some .int) [.ref (b + 215), .int x1, .int x2, .int x3] I r.2 (some (.int r.1)) := by
  unfold f_M_walk at h
  refine j_enter (plainFor_of_name (by decide)) (Nat.le_of_ble_eq_true rfl) [some (.ref (b + 215)), some (.int x1), some (.int x2), some (.int x3), none] rfl ?_
  intro p e R s m args below meth c X0 hnm hRc hRs
  have X : j_X p R s m args meth c g b 2 jb_M_walk 5 "PleasureGardenModel" (some .int) := X0
  clear X0
  refine j_aload_n X jd_M_walk_0 rfl rfl ?_
  refine j_iload_n X jd_M_walk_1 rfl rfl ?_
  refine j_callVi (As := [.int x1]) (st := []) (c0 := 215) X h jc_M js_215 (j_lt rfl hn) ⟨jqc_M_isPlace, jqi_M_isPlace, jqv_M_isPlace, jqn_M⟩ jlm_M_162 jh_M_isPlace rfl (by decide) (by decide) (Nat.le_of_ble_eq_true rfl) ⟨Nat.zero_le _, Nat.zero_le _⟩ (fun v0 I0 h => k_M_isPlace (r := (v0, I0)) hF hn h) jd_M_walk_2 rfl (fun v1 I2 h => ?_)
  refine j_if_eq (tgt := 31) X jd_M_walk_5 rfl h (fun h => ?_) (fun h => ?_)
  · refine j_iconst (v := (-1)) X jd_M_walk_31 (by decide) ?_
    exact j_iret X rfl jd_M_walk_32 h
  · refine j_aload_n X jd_M_walk_8 rfl rfl ?_
    refine j_iload_n X jd_M_walk_9 rfl rfl ?_
    refine j_callVi (As := [.int x2]) (st := []) (c0 := 215) X h jc_M js_215 (j_lt rfl hn) ⟨jqc_M_isPlace, jqi_M_isPlace, jqv_M_isPlace, jqn_M⟩ jlm_M_162 jh_M_isPlace rfl (by decide) (by decide) (Nat.le_of_ble_eq_true rfl) ⟨Nat.zero_le _, Nat.zero_le _⟩ (fun v0 I0 h => k_M_isPlace (r := (v0, I0)) hF hn h) jd_M_walk_10 rfl (fun v3 I4 h => ?_)
    refine j_if_eq (tgt := 31) X jd_M_walk_13 rfl h (fun h => ?_) (fun h => ?_)
    · refine j_iconst (v := (-1)) X jd_M_walk_31 (by decide) ?_
      exact j_iret X rfl jd_M_walk_32 h
    · refine j_iload_n X jd_M_walk_16 rfl rfl ?_
      refine j_iload_n X jd_M_walk_17 rfl rfl ?_
      refine j_icmp_eq (tgt := 31) X jd_M_walk_18 rfl h (fun h => ?_) (fun h => ?_)
      · refine j_iconst (v := (-1)) X jd_M_walk_31 (by decide) ?_
        exact j_iret X rfl jd_M_walk_32 h
      · refine j_iload_n X jd_M_walk_21 rfl rfl ?_
        refine j_iconst (v := 0) X jd_M_walk_22 (by decide) ?_
        refine j_bipush (v := 60) X jd_M_walk_23 (by decide) ?_
        refine j_callSi (As := [.int x3, .int 0, .int 60]) (st := []) X h ⟨jqc_M_among, jqs_M_among, jqn_M⟩ jlm_M_158 jh_M_among.2 rfl (by decide) (by decide) (Nat.le_of_ble_eq_true rfl) ⟨Nat.zero_le _, Nat.zero_le _⟩ (fun v0 I0 h => k_M_among (r := (v0, I0)) hF hn h) jd_M_walk_25 rfl (fun v5 I6 h => ?_)
        refine j_if_ne (tgt := 33) X jd_M_walk_28 rfl h (fun h => ?_) (fun h => ?_)
        · refine j_iconst (v := (-1)) X jd_M_walk_31 (by decide) ?_
          exact j_iret X rfl jd_M_walk_32 h
        · refine j_aload_n X jd_M_walk_33 rfl rfl ?_
          refine j_getr X jf_M_17 jk_12_6 js_215 (j_lt rfl hn) (jp_215_6 hF) jd_M_walk_34 ?_
          refine j_bipush (v := 16) X jd_M_walk_37 (by decide) ?_
          refine j_iload_n X jd_M_walk_39 rfl rfl ?_
          refine j_imul X jd_M_walk_40 ?_
          refine j_iload_n X jd_M_walk_41 rfl rfl ?_
          refine j_iadd X jd_M_walk_42 ?_
          refine j_iald X js_218 (j_lt rfl hn) jd_M_walk_43 h (fun _ h => ?_)
          refine j_nm h (fun v7 h => ?_)
          refine j_istore (lv' := [some (.ref (b + 215)), some (.int x1), some (.int x2), some (.int x3), some (.int v7)]) X jd_M_walk_44 (by decide) rfl ?_
          refine j_aload_n X jd_M_walk_46 rfl rfl ?_
          refine j_getr X jf_M_17 jk_12_6 js_215 (j_lt rfl hn) (jp_215_6 hF) jd_M_walk_47 ?_
          refine j_bipush (v := 16) X jd_M_walk_50 (by decide) ?_
          refine j_iload_n X jd_M_walk_52 rfl rfl ?_
          refine j_imul X jd_M_walk_53 ?_
          refine j_iload_n X jd_M_walk_54 rfl rfl ?_
          refine j_iadd X jd_M_walk_55 ?_
          refine j_iload_n X jd_M_walk_56 rfl rfl ?_
          refine j_iast X js_218 (j_lt rfl hn) jd_M_walk_57 h (fun h => ?_)
          refine j_mem h (fun I8 h => ?_)
          refine j_aload_n X jd_M_walk_58 rfl rfl ?_
          refine j_getr X jf_M_17 jk_12_6 js_215 (j_lt rfl hn) (jp_215_6 hF) jd_M_walk_59 ?_
          refine j_bipush (v := 16) X jd_M_walk_62 (by decide) ?_
          refine j_iload_n X jd_M_walk_64 rfl rfl ?_
          refine j_imul X jd_M_walk_65 ?_
          refine j_iload_n X jd_M_walk_66 rfl rfl ?_
          refine j_iadd X jd_M_walk_67 ?_
          refine j_iload_n X jd_M_walk_68 rfl rfl ?_
          refine j_iast X js_218 (j_lt rfl hn) jd_M_walk_69 h (fun h => ?_)
          refine j_mem h (fun I9 h => ?_)
          refine j_iload X jd_M_walk_70 rfl ?_
          exact j_iret X rfl jd_M_walk_72 h
-- PleasureGardenModel.way(II)I
theorem jd_M_way_0 : decode jb_M_way 0 = .ok (.aload_n 0, 1) := by decide +kernel
theorem jd_M_way_1 : decode jb_M_way 1 = .ok (.iload_n 1, 1) := by decide +kernel
theorem jd_M_way_2 : decode jb_M_way 2 = .ok (.invokevirtual 162, 3) := by decide +kernel
theorem jd_M_way_5 : decode jb_M_way 5 = .ok (.ifCond .eq 11, 3) := by decide +kernel
theorem jd_M_way_8 : decode jb_M_way 8 = .ok (.aload_n 0, 1) := by decide +kernel
theorem jd_M_way_9 : decode jb_M_way 9 = .ok (.iload_n 2, 1) := by decide +kernel
theorem jd_M_way_10 : decode jb_M_way 10 = .ok (.invokevirtual 162, 3) := by decide +kernel
theorem jd_M_way_13 : decode jb_M_way 13 = .ok (.ifCond .ne 5, 3) := by decide +kernel
theorem jd_M_way_16 : decode jb_M_way 16 = .ok (.iconst (-1), 1) := by decide +kernel
theorem jd_M_way_17 : decode jb_M_way 17 = .ok (.ireturn, 1) := by decide +kernel
theorem jd_M_way_18 : decode jb_M_way 18 = .ok (.aload_n 0, 1) := by decide +kernel
theorem jd_M_way_19 : decode jb_M_way 19 = .ok (.iload_n 1, 1) := by decide +kernel
theorem jd_M_way_20 : decode jb_M_way 20 = .ok (.invokevirtual 167, 3) := by decide +kernel
theorem jd_M_way_23 : decode jb_M_way 23 = .ok (.aload_n 0, 1) := by decide +kernel
theorem jd_M_way_24 : decode jb_M_way 24 = .ok (.getfield 26, 3) := by decide +kernel
theorem jd_M_way_27 : decode jb_M_way 27 = .ok (.iload_n 2, 1) := by decide +kernel
theorem jd_M_way_28 : decode jb_M_way 28 = .ok (.iaload, 1) := by decide +kernel
theorem jd_M_way_29 : decode jb_M_way 29 = .ok (.ldc 166, 2) := by decide +kernel
theorem jd_M_way_31 : decode jb_M_way 31 = .ok (.if_icmp .ne 8, 3) := by decide +kernel
theorem jd_M_way_34 : decode jb_M_way 34 = .ok (.bipush (-4), 2) := by decide +kernel
theorem jd_M_way_36 : decode jb_M_way 36 = .ok (.goto 9, 3) := by decide +kernel
theorem jd_M_way_39 : decode jb_M_way 39 = .ok (.aload_n 0, 1) := by decide +kernel
theorem jd_M_way_40 : decode jb_M_way 40 = .ok (.getfield 26, 3) := by decide +kernel
theorem jd_M_way_43 : decode jb_M_way 43 = .ok (.iload_n 2, 1) := by decide +kernel
theorem jd_M_way_44 : decode jb_M_way 44 = .ok (.iaload, 1) := by decide +kernel
theorem jd_M_way_45 : decode jb_M_way 45 = .ok (.ireturn, 1) := by decide +kernel
def f_M_way (F : Nat) (x1 : Int32) (x2 : Int32) (I : j_M) : Option (Int32 × j_M) := j_bd (f_M_isPlace F x1 I) (fun v1 I2 => (if v1 = 0 then some ((-1), I2) else j_bd (f_M_isPlace F x2 I2) (fun v3 I4 => (if v3 = 0 then some ((-1), I4) else j_bd (f_M_findFar F x1 I4) (fun v5 I6 => (if j_ok x2 16 = true then (if (I6 221 (j_ix x2)) = 1000000 then some ((-4), I6) else (if j_ok x2 16 = true then some (I6 221 (j_ix x2), I6) else none)) else none))))))
set_option maxRecDepth 100000 in
set_option maxHeartbeats 4000000 in
theorem k_M_way {l : Launch} {g : j_G} {b n : Nat} {P : j_R} {F : Nat} (hF : j_Fx 0 260 P) (hn : 260 ≤ n) {x1 : Int32} {x2 : Int32} {I : j_M} {r : Int32 × j_M}  (h : f_M_way F x1 x2 I = some r) : j_Met l g b n P 2 jy_M_way jb_M_way 3 (some .int) [.ref (b + 215), .int x1, .int x2] I r.2 (some (.int r.1)) := by
  unfold f_M_way at h
  refine j_enter (plainFor_of_name (by decide)) (Nat.le_of_ble_eq_true rfl) [some (.ref (b + 215)), some (.int x1), some (.int x2)] rfl ?_
  intro p e R s m args below meth c X0 hnm hRc hRs
  have X : j_X p R s m args meth c g b 2 jb_M_way 3 "PleasureGardenModel" (some .int) := X0
  clear X0
  refine j_aload_n X jd_M_way_0 rfl rfl ?_
  refine j_iload_n X jd_M_way_1 rfl rfl ?_
  refine j_callVi (As := [.int x1]) (st := []) (c0 := 215) X h jc_M js_215 (j_lt rfl hn) ⟨jqc_M_isPlace, jqi_M_isPlace, jqv_M_isPlace, jqn_M⟩ jlm_M_162 jh_M_isPlace rfl (by decide) (by decide) (Nat.le_of_ble_eq_true rfl) ⟨Nat.zero_le _, Nat.zero_le _⟩ (fun v0 I0 h => k_M_isPlace (r := (v0, I0)) hF hn h) jd_M_way_2 rfl (fun v1 I2 h => ?_)
  refine j_if_eq (tgt := 16) X jd_M_way_5 rfl h (fun h => ?_) (fun h => ?_)
  · refine j_iconst (v := (-1)) X jd_M_way_16 (by decide) ?_
    exact j_iret X rfl jd_M_way_17 h
  · refine j_aload_n X jd_M_way_8 rfl rfl ?_
    refine j_iload_n X jd_M_way_9 rfl rfl ?_
    refine j_callVi (As := [.int x2]) (st := []) (c0 := 215) X h jc_M js_215 (j_lt rfl hn) ⟨jqc_M_isPlace, jqi_M_isPlace, jqv_M_isPlace, jqn_M⟩ jlm_M_162 jh_M_isPlace rfl (by decide) (by decide) (Nat.le_of_ble_eq_true rfl) ⟨Nat.zero_le _, Nat.zero_le _⟩ (fun v0 I0 h => k_M_isPlace (r := (v0, I0)) hF hn h) jd_M_way_10 rfl (fun v3 I4 h => ?_)
    refine j_if_ne (tgt := 18) X jd_M_way_13 rfl h (fun h => ?_) (fun h => ?_)
    · refine j_iconst (v := (-1)) X jd_M_way_16 (by decide) ?_
      exact j_iret X rfl jd_M_way_17 h
    · refine j_aload_n X jd_M_way_18 rfl rfl ?_
      refine j_iload_n X jd_M_way_19 rfl rfl ?_
      refine j_callVv (As := [.int x1]) (st := []) (c0 := 215) X h jc_M js_215 (j_lt rfl hn) ⟨jqc_M_findFar, jqi_M_findFar, jqv_M_findFar, jqn_M⟩ jlm_M_167 jh_M_findFar rfl (by decide) (by decide) (Nat.le_of_ble_eq_true rfl) ⟨Nat.zero_le _, Nat.zero_le _⟩ (fun v0 I0 h => k_M_findFar (r := (v0, I0)) hF hn h) jd_M_way_20 rfl (fun v5 I6 h => ?_)
      refine j_aload_n X jd_M_way_23 rfl rfl ?_
      refine j_getr X jf_M_26 jk_12_10 js_215 (j_lt rfl hn) (jp_215_10 hF) jd_M_way_24 ?_
      refine j_iload_n X jd_M_way_27 rfl rfl ?_
      refine j_iald X js_221 (j_lt rfl hn) jd_M_way_28 h (fun _ h => ?_)
      refine j_ldc (v := 1000000) X jlc_M_166 jd_M_way_29 ?_
      refine j_icmp_ne (tgt := 39) X jd_M_way_31 rfl h (fun h => ?_) (fun h => ?_)
      · refine j_bipush (v := (-4)) X jd_M_way_34 (by decide) ?_
        refine j_goto (tgt := 45) X jd_M_way_36 rfl ?_
        exact j_iret X rfl jd_M_way_45 h
      · refine j_aload_n X jd_M_way_39 rfl rfl ?_
        refine j_getr X jf_M_26 jk_12_10 js_215 (j_lt rfl hn) (jp_215_10 hF) jd_M_way_40 ?_
        refine j_iload_n X jd_M_way_43 rfl rfl ?_
        refine j_iald X js_221 (j_lt rfl hn) jd_M_way_44 h (fun _ h => ?_)
        exact j_iret X rfl jd_M_way_45 h
-- PleasureGardenModel.sell(II)I
theorem jd_M_sell_0 : decode jb_M_sell 0 = .ok (.iload_n 1, 1) := by decide +kernel
theorem jd_M_sell_1 : decode jb_M_sell 1 = .ok (.invokestatic 183, 3) := by decide +kernel
theorem jd_M_sell_4 : decode jb_M_sell 4 = .ok (.ifCond .eq 15, 3) := by decide +kernel
theorem jd_M_sell_7 : decode jb_M_sell 7 = .ok (.iload_n 2, 1) := by decide +kernel
theorem jd_M_sell_8 : decode jb_M_sell 8 = .ok (.invokestatic 183, 3) := by decide +kernel
theorem jd_M_sell_11 : decode jb_M_sell 11 = .ok (.ifCond .eq 8, 3) := by decide +kernel
theorem jd_M_sell_14 : decode jb_M_sell 14 = .ok (.iload_n 1, 1) := by decide +kernel
theorem jd_M_sell_15 : decode jb_M_sell 15 = .ok (.iload_n 2, 1) := by decide +kernel
theorem jd_M_sell_16 : decode jb_M_sell 16 = .ok (.if_icmp .le 5, 3) := by decide +kernel
theorem jd_M_sell_19 : decode jb_M_sell 19 = .ok (.iconst (-1), 1) := by decide +kernel
theorem jd_M_sell_20 : decode jb_M_sell 20 = .ok (.ireturn, 1) := by decide +kernel
theorem jd_M_sell_21 : decode jb_M_sell 21 = .ok (.iconst 0, 1) := by decide +kernel
theorem jd_M_sell_22 : decode jb_M_sell 22 = .ok (.istore_n 3, 1) := by decide +kernel
theorem jd_M_sell_23 : decode jb_M_sell 23 = .ok (.iload_n 1, 1) := by decide +kernel
theorem jd_M_sell_24 : decode jb_M_sell 24 = .ok (.istore 4, 2) := by decide +kernel
theorem jd_M_sell_26 : decode jb_M_sell 26 = .ok (.iload 4, 2) := by decide +kernel
theorem jd_M_sell_28 : decode jb_M_sell 28 = .ok (.iload_n 2, 1) := by decide +kernel
theorem jd_M_sell_29 : decode jb_M_sell 29 = .ok (.if_icmp .gt 35, 3) := by decide +kernel
theorem jd_M_sell_32 : decode jb_M_sell 32 = .ok (.iload_n 3, 1) := by decide +kernel
theorem jd_M_sell_33 : decode jb_M_sell 33 = .ok (.aload_n 0, 1) := by decide +kernel
theorem jd_M_sell_34 : decode jb_M_sell 34 = .ok (.getfield 29, 3) := by decide +kernel
theorem jd_M_sell_37 : decode jb_M_sell 37 = .ok (.iload 4, 2) := by decide +kernel
theorem jd_M_sell_39 : decode jb_M_sell 39 = .ok (.baload, 1) := by decide +kernel
theorem jd_M_sell_40 : decode jb_M_sell 40 = .ok (.ifCond .eq 7, 3) := by decide +kernel
theorem jd_M_sell_43 : decode jb_M_sell 43 = .ok (.iconst 0, 1) := by decide +kernel
theorem jd_M_sell_44 : decode jb_M_sell 44 = .ok (.goto 4, 3) := by decide +kernel
theorem jd_M_sell_47 : decode jb_M_sell 47 = .ok (.iconst 1, 1) := by decide +kernel
theorem jd_M_sell_48 : decode jb_M_sell 48 = .ok (.iadd, 1) := by decide +kernel
theorem jd_M_sell_49 : decode jb_M_sell 49 = .ok (.istore_n 3, 1) := by decide +kernel
theorem jd_M_sell_50 : decode jb_M_sell 50 = .ok (.aload_n 0, 1) := by decide +kernel
theorem jd_M_sell_51 : decode jb_M_sell 51 = .ok (.getfield 29, 3) := by decide +kernel
theorem jd_M_sell_54 : decode jb_M_sell 54 = .ok (.iload 4, 2) := by decide +kernel
theorem jd_M_sell_56 : decode jb_M_sell 56 = .ok (.iconst 1, 1) := by decide +kernel
theorem jd_M_sell_57 : decode jb_M_sell 57 = .ok (.bastore, 1) := by decide +kernel
theorem jd_M_sell_58 : decode jb_M_sell 58 = .ok (.iinc 4 1, 3) := by decide +kernel
theorem jd_M_sell_61 : decode jb_M_sell 61 = .ok (.goto (-35), 3) := by decide +kernel
theorem jd_M_sell_64 : decode jb_M_sell 64 = .ok (.iload_n 3, 1) := by decide +kernel
theorem jd_M_sell_65 : decode jb_M_sell 65 = .ok (.ireturn, 1) := by decide +kernel
def f_M_sell_48 (F : Nat) (kb26 : Int32 → Int32 → Int32 → j_M → Option (Int32 × j_M)) (x2 : Int32) (x4 : Int32) (s0 : Int32) (s1 : Int32) (I : j_M) : Option (Int32 × j_M) := j_let (s0 + s1) (fun v1 => (if j_ok x4 300 = true then j_let (j_wr I 222 (j_ix x4) (1 &&& 1)) (fun I2 => j_let (x4 + 1) (fun v3 => kb26 x2 v1 v3 I2)) else none))
def f_M_sell_26b (F : Nat) (kb26 : Int32 → Int32 → Int32 → j_M → Option (Int32 × j_M)) (x2 : Int32) (x3 : Int32) (x4 : Int32) (I : j_M) : Option (Int32 × j_M) := (if x2 < x4 then some (x3, I) else (if j_ok x4 300 = true then (if (I 222 (j_ix x4)) = 0 then f_M_sell_48 F kb26 x2 x4 x3 1 I else f_M_sell_48 F kb26 x2 x4 x3 0 I) else none))
def f_M_sell_26 (F : Nat)  (x2 : Int32) (x3 : Int32) (x4 : Int32) (I : j_M) : Option (Int32 × j_M) := j_it (fun (again : Int32 × Int32 × Int32 × j_M → Option (Int32 × j_M)) (q : Int32 × Int32 × Int32 × j_M) => f_M_sell_26b F  (fun x2 x3 x4 I => again (x2, x3, x4, I))  q.1 q.2.1 q.2.2.1 q.2.2.2) F (x2, x3, x4, I)
def f_M_sell (F : Nat) (x1 : Int32) (x2 : Int32) (I : j_M) : Option (Int32 × j_M) := j_bd (f_M_isTicket F x1 I) (fun v4 I5 => (if v4 = 0 then some ((-1), I5) else j_bd (f_M_isTicket F x2 I5) (fun v6 I7 => (if v6 = 0 then some ((-1), I7) else (if x1 ≤ x2 then f_M_sell_26 F x2 0 x1 I7 else some ((-1), I7))))))
set_option maxRecDepth 100000 in
set_option maxHeartbeats 4000000 in
theorem k_M_sell_48 {p : Program} {l : Launch} {e : Env} {R : Room} {s : State} {m : MethodId} {args : Array Value} {below : List Frame} {meth : Method} {c : Code} {g : j_G} {b n : Nat} {P : j_R} {F : Nat} (hF : j_Fx 0 260 P) (hn : 260 ≤ n) (X : j_X p R s m args meth c g b 2 jb_M_sell 5 "PleasureGardenModel" (some .int)) {kb26 : Int32 → Int32 → Int32 → j_M → Option (Int32 × j_M)} (hkb26 : ∀ (x2 : Int32) (x3 : Int32) (x4 : Int32) (I : j_M) (r : Int32 × j_M), kb26 x2 x3 x4 I = some r → j_W p l e R s m args below meth c 5 g b n 0 0 (j_Qi g b n P below args s r) I P 26 [some (.ref (b + 215)), none, some (.int x2), some (.int x3), some (.int x4)] []) {x2 : Int32} {x4 : Int32} {s0 : Int32} {s1 : Int32} {I : j_M} {r : Int32 × j_M}  (h : f_M_sell_48 F kb26 x2 x4 s0 s1 I = some r) : j_W p l e R s m args below meth c 5 g b n 0 0 (j_Qi g b n P below args s r) I P 48 [some (.ref (b + 215)), none, some (.int x2), none, some (.int x4)] [.int s1, .int s0] := by
  unfold f_M_sell_48 at h
  refine j_iadd X jd_M_sell_48 ?_
  refine j_nm h (fun v1 h => ?_)
  refine j_istore_n (lv' := [some (.ref (b + 215)), none, some (.int x2), some (.int v1), some (.int x4)]) X jd_M_sell_49 rfl (by decide) rfl ?_
  refine j_aload_n X jd_M_sell_50 rfl rfl ?_
  refine j_getr X jf_M_29 jk_12_11 js_215 (j_lt rfl hn) (jp_215_11 hF) jd_M_sell_51 ?_
  refine j_iload X jd_M_sell_54 rfl ?_
  refine j_iconst (v := 1) X jd_M_sell_56 (by decide) ?_
  refine j_zast X js_222 (j_lt rfl hn) jd_M_sell_57 h (fun h => ?_)
  refine j_mem h (fun I2 h => ?_)
  obtain ⟨v3, ev3, h⟩ := j_ex h
  refine j_iinc (v := v3) (lv' := [some (.ref (b + 215)), none, some (.int x2), some (.int v1), some (.int v3)]) X jd_M_sell_58 rfl (by rw [ev3]; rfl) (by decide) rfl ?_
  refine j_goto (tgt := 26) X jd_M_sell_61 rfl ?_
  exact hkb26 _ _ _ _ _ h
set_option maxRecDepth 100000 in
set_option maxHeartbeats 4000000 in
theorem k_M_sell_26b {p : Program} {l : Launch} {e : Env} {R : Room} {s : State} {m : MethodId} {args : Array Value} {below : List Frame} {meth : Method} {c : Code} {g : j_G} {b n : Nat} {P : j_R} {F : Nat} (hF : j_Fx 0 260 P) (hn : 260 ≤ n) (X : j_X p R s m args meth c g b 2 jb_M_sell 5 "PleasureGardenModel" (some .int)) {kb26 : Int32 → Int32 → Int32 → j_M → Option (Int32 × j_M)} (hkb26 : ∀ (x2 : Int32) (x3 : Int32) (x4 : Int32) (I : j_M) (r : Int32 × j_M), kb26 x2 x3 x4 I = some r → j_W p l e R s m args below meth c 5 g b n 0 0 (j_Qi g b n P below args s r) I P 26 [some (.ref (b + 215)), none, some (.int x2), some (.int x3), some (.int x4)] []) {x2 : Int32} {x3 : Int32} {x4 : Int32} {I : j_M} {r : Int32 × j_M}  (h : f_M_sell_26b F kb26 x2 x3 x4 I = some r) : j_W p l e R s m args below meth c 5 g b n 0 0 (j_Qi g b n P below args s r) I P 26 [some (.ref (b + 215)), none, some (.int x2), some (.int x3), some (.int x4)] [] := by
  unfold f_M_sell_26b at h
  refine j_iload X jd_M_sell_26 rfl ?_
  refine j_iload_n X jd_M_sell_28 rfl rfl ?_
  refine j_icmp_gt (tgt := 64) X jd_M_sell_29 rfl h (fun h => ?_) (fun h => ?_)
  · refine j_iload_n X jd_M_sell_64 rfl rfl ?_
    exact j_iret X rfl jd_M_sell_65 h
  · refine j_iload_n X jd_M_sell_32 rfl rfl ?_
    refine j_aload_n X jd_M_sell_33 rfl rfl ?_
    refine j_getr X jf_M_29 jk_12_11 js_215 (j_lt rfl hn) (jp_215_11 hF) jd_M_sell_34 ?_
    refine j_iload X jd_M_sell_37 rfl ?_
    refine j_zald X js_222 (j_lt rfl hn) jd_M_sell_39 h (fun _ h => ?_)
    refine j_if_eq (tgt := 47) X jd_M_sell_40 rfl h (fun h => ?_) (fun h => ?_)
    · refine j_iconst (v := 1) X jd_M_sell_47 (by decide) ?_
      refine j_sub [true, false, true, false, true] (lv' := [some (.ref (b + 215)), none, some (.int x2), none, some (.int x4)]) rfl ?_
      exact k_M_sell_48 hF hn X hkb26 h
    · refine j_iconst (v := 0) X jd_M_sell_43 (by decide) ?_
      refine j_goto (tgt := 48) X jd_M_sell_44 rfl ?_
      refine j_sub [true, false, true, false, true] (lv' := [some (.ref (b + 215)), none, some (.int x2), none, some (.int x4)]) rfl ?_
      exact k_M_sell_48 hF hn X hkb26 h
set_option maxRecDepth 100000 in
set_option maxHeartbeats 4000000 in
theorem k_M_sell_26 {p : Program} {l : Launch} {e : Env} {R : Room} {s : State} {m : MethodId} {args : Array Value} {below : List Frame} {meth : Method} {c : Code} {g : j_G} {b n : Nat} {P : j_R} {F : Nat} (hF : j_Fx 0 260 P) (hn : 260 ≤ n) (X : j_X p R s m args meth c g b 2 jb_M_sell 5 "PleasureGardenModel" (some .int))  {x2 : Int32} {x3 : Int32} {x4 : Int32} {I : j_M} {r : Int32 × j_M} (h : f_M_sell_26 F x2 x3 x4 I = some r) : j_W p l e R s m args below meth c 5 g b n 0 0 (j_Qi g b n P below args s r) I P 26 [some (.ref (b + 215)), none, some (.int x2), some (.int x3), some (.int x4)] [] := by
  refine j_loop (G := fun (q : Int32 × Int32 × Int32 × j_M) (r : Int32 × j_M) => j_W p l e R s m args below meth c 5 g b n 0 0 (j_Qi g b n P below args s r) q.2.2.2 P 26 [some (.ref (b + 215)), none, some (.int (q.1)), some (.int (q.2.1)), some (.int (q.2.2.1))] []) ?_ F (x2, x3, x4, I) r h
  intro again hrec0 q r h
  exact k_M_sell_26b hF hn X (fun x2 x3 x4 I r h => hrec0 (x2, x3, x4, I) r h)  h
set_option maxRecDepth 100000 in
set_option maxHeartbeats 4000000 in
theorem k_M_sell {l : Launch} {g : j_G} {b n : Nat} {P : j_R} {F : Nat} (hF : j_Fx 0 260 P) (hn : 260 ≤ n) {x1 : Int32} {x2 : Int32} {I : j_M} {r : Int32 × j_M}  (h : f_M_sell F x1 x2 I = some r) : j_Met l g b n P 2 jy_M_sell jb_M_sell 5 (some .int) [.ref (b + 215), .int x1, .int x2] I r.2 (some (.int r.1)) := by
  unfold f_M_sell at h
  refine j_enter (plainFor_of_name (by decide)) (Nat.le_of_ble_eq_true rfl) [some (.ref (b + 215)), some (.int x1), some (.int x2), none, none] rfl ?_
  intro p e R s m args below meth c X0 hnm hRc hRs
  have X : j_X p R s m args meth c g b 2 jb_M_sell 5 "PleasureGardenModel" (some .int) := X0
  clear X0
  refine j_iload_n X jd_M_sell_0 rfl rfl ?_
  refine j_callSi (As := [.int x1]) (st := []) X h ⟨jqc_M_isTicket, jqs_M_isTicket, jqn_M⟩ jlm_M_183 jh_M_isTicket.2 rfl (by decide) (by decide) (Nat.le_of_ble_eq_true rfl) ⟨Nat.zero_le _, Nat.zero_le _⟩ (fun v0 I0 h => k_M_isTicket (r := (v0, I0)) hF hn h) jd_M_sell_1 rfl (fun v4 I5 h => ?_)
  refine j_if_eq (tgt := 19) X jd_M_sell_4 rfl h (fun h => ?_) (fun h => ?_)
  · refine j_iconst (v := (-1)) X jd_M_sell_19 (by decide) ?_
    exact j_iret X rfl jd_M_sell_20 h
  · refine j_iload_n X jd_M_sell_7 rfl rfl ?_
    refine j_callSi (As := [.int x2]) (st := []) X h ⟨jqc_M_isTicket, jqs_M_isTicket, jqn_M⟩ jlm_M_183 jh_M_isTicket.2 rfl (by decide) (by decide) (Nat.le_of_ble_eq_true rfl) ⟨Nat.zero_le _, Nat.zero_le _⟩ (fun v0 I0 h => k_M_isTicket (r := (v0, I0)) hF hn h) jd_M_sell_8 rfl (fun v6 I7 h => ?_)
    refine j_if_eq (tgt := 19) X jd_M_sell_11 rfl h (fun h => ?_) (fun h => ?_)
    · refine j_iconst (v := (-1)) X jd_M_sell_19 (by decide) ?_
      exact j_iret X rfl jd_M_sell_20 h
    · refine j_iload_n X jd_M_sell_14 rfl rfl ?_
      refine j_iload_n X jd_M_sell_15 rfl rfl ?_
      refine j_icmp_le (tgt := 21) X jd_M_sell_16 rfl h (fun h => ?_) (fun h => ?_)
      · refine j_iconst (v := 0) X jd_M_sell_21 (by decide) ?_
        refine j_istore_n (lv' := [some (.ref (b + 215)), some (.int x1), some (.int x2), some (.int 0), none]) X jd_M_sell_22 rfl (by decide) rfl ?_
        refine j_iload_n X jd_M_sell_23 rfl rfl ?_
        refine j_istore (lv' := [some (.ref (b + 215)), some (.int x1), some (.int x2), some (.int 0), some (.int x1)]) X jd_M_sell_24 (by decide) rfl ?_
        refine j_sub [true, false, true, true, true] (lv' := [some (.ref (b + 215)), none, some (.int x2), some (.int 0), some (.int x1)]) rfl ?_
        exact k_M_sell_26 hF hn X h
      · refine j_iconst (v := (-1)) X jd_M_sell_19 (by decide) ?_
        exact j_iret X rfl jd_M_sell_20 h
-- PleasureGardenModel.goes(III)V
theorem jd_M_goes_0 : decode jb_M_goes 0 = .ok (.aload_n 0, 1) := by decide +kernel
theorem jd_M_goes_1 : decode jb_M_goes 1 = .ok (.iload_n 1, 1) := by decide +kernel
theorem jd_M_goes_2 : decode jb_M_goes 2 = .ok (.invokevirtual 203, 3) := by decide +kernel
theorem jd_M_goes_5 : decode jb_M_goes 5 = .ok (.aload_n 0, 1) := by decide +kernel
theorem jd_M_goes_6 : decode jb_M_goes 6 = .ok (.getfield 38, 3) := by decide +kernel
theorem jd_M_goes_9 : decode jb_M_goes 9 = .ok (.iload_n 1, 1) := by decide +kernel
theorem jd_M_goes_10 : decode jb_M_goes 10 = .ok (.iconst 1, 1) := by decide +kernel
theorem jd_M_goes_11 : decode jb_M_goes 11 = .ok (.iastore, 1) := by decide +kernel
theorem jd_M_goes_12 : decode jb_M_goes 12 = .ok (.aload_n 0, 1) := by decide +kernel
theorem jd_M_goes_13 : decode jb_M_goes 13 = .ok (.getfield 41, 3) := by decide +kernel
theorem jd_M_goes_16 : decode jb_M_goes 16 = .ok (.iload_n 1, 1) := by decide +kernel
theorem jd_M_goes_17 : decode jb_M_goes 17 = .ok (.iload_n 2, 1) := by decide +kernel
theorem jd_M_goes_18 : decode jb_M_goes 18 = .ok (.iastore, 1) := by decide +kernel
theorem jd_M_goes_19 : decode jb_M_goes 19 = .ok (.aload_n 0, 1) := by decide +kernel
theorem jd_M_goes_20 : decode jb_M_goes 20 = .ok (.getfield 44, 3) := by decide +kernel
theorem jd_M_goes_23 : decode jb_M_goes 23 = .ok (.iload_n 1, 1) := by decide +kernel
theorem jd_M_goes_24 : decode jb_M_goes 24 = .ok (.aload_n 0, 1) := by decide +kernel
theorem jd_M_goes_25 : decode jb_M_goes 25 = .ok (.getfield 171, 3) := by decide +kernel
theorem jd_M_goes_28 : decode jb_M_goes 28 = .ok (.iload_n 3, 1) := by decide +kernel
theorem jd_M_goes_29 : decode jb_M_goes 29 = .ok (.iadd, 1) := by decide +kernel
theorem jd_M_goes_30 : decode jb_M_goes 30 = .ok (.iastore, 1) := by decide +kernel
theorem jd_M_goes_31 : decode jb_M_goes 31 = .ok (.return_, 1) := by decide +kernel
def f_M_goes (F : Nat) (x1 : Int32) (x2 : Int32) (x3 : Int32) (I : j_M) : Option (Int32 × j_M) := j_bd (f_M_getsUp F x1 I) (fun v1 I2 => (if j_ok x1 100 = true then j_let (j_wr I2 225 (j_ix x1) 1) (fun I3 => (if j_ok x1 100 = true then j_let (j_wr I3 226 (j_ix x1) x2) (fun I4 => (if j_ok x1 100 = true then j_let (j_wr I4 227 (j_ix x1) ((I4 215 2) + x3)) (fun I5 => some (0, I5)) else none)) else none)) else none))
set_option maxRecDepth 100000 in
set_option maxHeartbeats 4000000 in
theorem k_M_goes {l : Launch} {g : j_G} {b n : Nat} {P : j_R} {F : Nat} (hF : j_Fx 0 260 P) (hn : 260 ≤ n) {x1 : Int32} {x2 : Int32} {x3 : Int32} {I : j_M} {r : Int32 × j_M}  (h : f_M_goes F x1 x2 x3 I = some r) : j_Met l g b n P 2 jy_M_goes jb_M_goes 4 none [.ref (b + 215), .int x1, .int x2, .int x3] I r.2 none := by
  unfold f_M_goes at h
  refine j_enter (plainFor_of_name (by decide)) (Nat.le_of_ble_eq_true rfl) [some (.ref (b + 215)), some (.int x1), some (.int x2), some (.int x3)] rfl ?_
  intro p e R s m args below meth c X0 hnm hRc hRs
  have X : j_X p R s m args meth c g b 2 jb_M_goes 4 "PleasureGardenModel" none := X0
  clear X0
  refine j_aload_n X jd_M_goes_0 rfl rfl ?_
  refine j_iload_n X jd_M_goes_1 rfl rfl ?_
  refine j_callVv (As := [.int x1]) (st := []) (c0 := 215) X h jc_M js_215 (j_lt rfl hn) ⟨jqc_M_getsUp, jqi_M_getsUp, jqv_M_getsUp, jqn_M⟩ jlm_M_203 jh_M_getsUp rfl (by decide) (by decide) (Nat.le_of_ble_eq_true rfl) ⟨Nat.zero_le _, Nat.zero_le _⟩ (fun v0 I0 h => k_M_getsUp (r := (v0, I0)) hF hn h) jd_M_goes_2 rfl (fun v1 I2 h => ?_)
  refine j_aload_n X jd_M_goes_5 rfl rfl ?_
  refine j_getr X jf_M_38 jk_12_15 js_215 (j_lt rfl hn) (jp_215_15 hF) jd_M_goes_6 ?_
  refine j_iload_n X jd_M_goes_9 rfl rfl ?_
  refine j_iconst (v := 1) X jd_M_goes_10 (by decide) ?_
  refine j_iast X js_225 (j_lt rfl hn) jd_M_goes_11 h (fun h => ?_)
  refine j_mem h (fun I3 h => ?_)
  refine j_aload_n X jd_M_goes_12 rfl rfl ?_
  refine j_getr X jf_M_41 jk_12_16 js_215 (j_lt rfl hn) (jp_215_16 hF) jd_M_goes_13 ?_
  refine j_iload_n X jd_M_goes_16 rfl rfl ?_
  refine j_iload_n X jd_M_goes_17 rfl rfl ?_
  refine j_iast X js_226 (j_lt rfl hn) jd_M_goes_18 h (fun h => ?_)
  refine j_mem h (fun I4 h => ?_)
  refine j_aload_n X jd_M_goes_19 rfl rfl ?_
  refine j_getr X jf_M_44 jk_12_17 js_215 (j_lt rfl hn) (jp_215_17 hF) jd_M_goes_20 ?_
  refine j_iload_n X jd_M_goes_23 rfl rfl ?_
  refine j_aload_n X jd_M_goes_24 rfl rfl ?_
  refine j_get X jf_M_171 jk_12_2 js_215 (j_lt rfl hn) jd_M_goes_25 ?_
  refine j_iload_n X jd_M_goes_28 rfl rfl ?_
  refine j_iadd X jd_M_goes_29 ?_
  refine j_iast X js_227 (j_lt rfl hn) jd_M_goes_30 h (fun h => ?_)
  refine j_mem h (fun I5 h => ?_)
  exact j_vret X rfl jd_M_goes_31 h
-- PleasureGardenModel.party(II)I
theorem jd_M_party_0 : decode jb_M_party 0 = .ok (.aload_n 0, 1) := by decide +kernel
theorem jd_M_party_1 : decode jb_M_party 1 = .ok (.iload_n 1, 1) := by decide +kernel
theorem jd_M_party_2 : decode jb_M_party 2 = .ok (.invokevirtual 206, 3) := by decide +kernel
theorem jd_M_party_5 : decode jb_M_party 5 = .ok (.ifCond .ne 5, 3) := by decide +kernel
theorem jd_M_party_8 : decode jb_M_party 8 = .ok (.iconst (-1), 1) := by decide +kernel
theorem jd_M_party_9 : decode jb_M_party 9 = .ok (.ireturn, 1) := by decide +kernel
theorem jd_M_party_10 : decode jb_M_party 10 = .ok (.iload_n 2, 1) := by decide +kernel
theorem jd_M_party_11 : decode jb_M_party 11 = .ok (.tableswitch 123 0 9 #[53, 60, 67, 74, 81, 88, 95, 102, 109, 116], 53) := by decide +kernel
theorem jd_M_party_64 : decode jb_M_party 64 = .ok (.aload_n 0, 1) := by decide +kernel
theorem jd_M_party_65 : decode jb_M_party 65 = .ok (.getfield 32, 3) := by decide +kernel
theorem jd_M_party_68 : decode jb_M_party 68 = .ok (.iload_n 1, 1) := by decide +kernel
theorem jd_M_party_69 : decode jb_M_party 69 = .ok (.iaload, 1) := by decide +kernel
theorem jd_M_party_70 : decode jb_M_party 70 = .ok (.ireturn, 1) := by decide +kernel
theorem jd_M_party_71 : decode jb_M_party 71 = .ok (.aload_n 0, 1) := by decide +kernel
theorem jd_M_party_72 : decode jb_M_party 72 = .ok (.getfield 35, 3) := by decide +kernel
theorem jd_M_party_75 : decode jb_M_party 75 = .ok (.iload_n 1, 1) := by decide +kernel
theorem jd_M_party_76 : decode jb_M_party 76 = .ok (.iaload, 1) := by decide +kernel
theorem jd_M_party_77 : decode jb_M_party 77 = .ok (.ireturn, 1) := by decide +kernel
theorem jd_M_party_78 : decode jb_M_party 78 = .ok (.aload_n 0, 1) := by decide +kernel
theorem jd_M_party_79 : decode jb_M_party 79 = .ok (.getfield 38, 3) := by decide +kernel
theorem jd_M_party_82 : decode jb_M_party 82 = .ok (.iload_n 1, 1) := by decide +kernel
theorem jd_M_party_83 : decode jb_M_party 83 = .ok (.iaload, 1) := by decide +kernel
theorem jd_M_party_84 : decode jb_M_party 84 = .ok (.ireturn, 1) := by decide +kernel
theorem jd_M_party_85 : decode jb_M_party 85 = .ok (.aload_n 0, 1) := by decide +kernel
theorem jd_M_party_86 : decode jb_M_party 86 = .ok (.getfield 41, 3) := by decide +kernel
theorem jd_M_party_89 : decode jb_M_party 89 = .ok (.iload_n 1, 1) := by decide +kernel
theorem jd_M_party_90 : decode jb_M_party 90 = .ok (.iaload, 1) := by decide +kernel
theorem jd_M_party_91 : decode jb_M_party 91 = .ok (.ireturn, 1) := by decide +kernel
theorem jd_M_party_92 : decode jb_M_party 92 = .ok (.aload_n 0, 1) := by decide +kernel
theorem jd_M_party_93 : decode jb_M_party 93 = .ok (.getfield 44, 3) := by decide +kernel
theorem jd_M_party_96 : decode jb_M_party 96 = .ok (.iload_n 1, 1) := by decide +kernel
theorem jd_M_party_97 : decode jb_M_party 97 = .ok (.iaload, 1) := by decide +kernel
theorem jd_M_party_98 : decode jb_M_party 98 = .ok (.ireturn, 1) := by decide +kernel
theorem jd_M_party_99 : decode jb_M_party 99 = .ok (.aload_n 0, 1) := by decide +kernel
theorem jd_M_party_100 : decode jb_M_party 100 = .ok (.getfield 47, 3) := by decide +kernel
theorem jd_M_party_103 : decode jb_M_party 103 = .ok (.iload_n 1, 1) := by decide +kernel
theorem jd_M_party_104 : decode jb_M_party 104 = .ok (.iaload, 1) := by decide +kernel
theorem jd_M_party_105 : decode jb_M_party 105 = .ok (.ireturn, 1) := by decide +kernel
theorem jd_M_party_106 : decode jb_M_party 106 = .ok (.aload_n 0, 1) := by decide +kernel
theorem jd_M_party_107 : decode jb_M_party 107 = .ok (.getfield 50, 3) := by decide +kernel
theorem jd_M_party_110 : decode jb_M_party 110 = .ok (.iload_n 1, 1) := by decide +kernel
theorem jd_M_party_111 : decode jb_M_party 111 = .ok (.iaload, 1) := by decide +kernel
theorem jd_M_party_112 : decode jb_M_party 112 = .ok (.ireturn, 1) := by decide +kernel
theorem jd_M_party_113 : decode jb_M_party 113 = .ok (.aload_n 0, 1) := by decide +kernel
theorem jd_M_party_114 : decode jb_M_party 114 = .ok (.getfield 53, 3) := by decide +kernel
theorem jd_M_party_117 : decode jb_M_party 117 = .ok (.iload_n 1, 1) := by decide +kernel
theorem jd_M_party_118 : decode jb_M_party 118 = .ok (.iaload, 1) := by decide +kernel
theorem jd_M_party_119 : decode jb_M_party 119 = .ok (.ireturn, 1) := by decide +kernel
theorem jd_M_party_120 : decode jb_M_party 120 = .ok (.aload_n 0, 1) := by decide +kernel
theorem jd_M_party_121 : decode jb_M_party 121 = .ok (.getfield 56, 3) := by decide +kernel
theorem jd_M_party_124 : decode jb_M_party 124 = .ok (.iload_n 1, 1) := by decide +kernel
theorem jd_M_party_125 : decode jb_M_party 125 = .ok (.iaload, 1) := by decide +kernel
theorem jd_M_party_126 : decode jb_M_party 126 = .ok (.ireturn, 1) := by decide +kernel
theorem jd_M_party_127 : decode jb_M_party 127 = .ok (.aload_n 0, 1) := by decide +kernel
theorem jd_M_party_128 : decode jb_M_party 128 = .ok (.getfield 59, 3) := by decide +kernel
theorem jd_M_party_131 : decode jb_M_party 131 = .ok (.iload_n 1, 1) := by decide +kernel
theorem jd_M_party_132 : decode jb_M_party 132 = .ok (.iaload, 1) := by decide +kernel
theorem jd_M_party_133 : decode jb_M_party 133 = .ok (.ireturn, 1) := by decide +kernel
theorem jd_M_party_134 : decode jb_M_party 134 = .ok (.iconst (-1), 1) := by decide +kernel
theorem jd_M_party_135 : decode jb_M_party 135 = .ok (.ireturn, 1) := by decide +kernel
def f_M_party (F : Nat) (x1 : Int32) (x2 : Int32) (I : j_M) : Option (Int32 × j_M) := j_bd (f_M_isParty F x1 I) (fun v1 I2 => (if v1 = 0 then some ((-1), I2) else (if x2 = 0 then (if j_ok x1 100 = true then some (I2 223 (j_ix x1), I2) else none) else (if x2 = 1 then (if j_ok x1 100 = true then some (I2 224 (j_ix x1), I2) else none) else (if x2 = 2 then (if j_ok x1 100 = true then some (I2 225 (j_ix x1), I2) else none) else (if x2 = 3 then (if j_ok x1 100 = true then some (I2 226 (j_ix x1), I2) else none) else (if x2 = 4 then (if j_ok x1 100 = true then some (I2 227 (j_ix x1), I2) else none) else (if x2 = 5 then (if j_ok x1 100 = true then some (I2 228 (j_ix x1), I2) else none) else (if x2 = 6 then (if j_ok x1 100 = true then some (I2 229 (j_ix x1), I2) else none) else (if x2 = 7 then (if j_ok x1 100 = true then some (I2 230 (j_ix x1), I2) else none) else (if x2 = 8 then (if j_ok x1 100 = true then some (I2 231 (j_ix x1), I2) else none) else (if x2 = 9 then (if j_ok x1 100 = true then some (I2 232 (j_ix x1), I2) else none) else some ((-1), I2)))))))))))))
set_option maxRecDepth 100000 in
set_option maxHeartbeats 4000000 in
theorem k_M_party {l : Launch} {g : j_G} {b n : Nat} {P : j_R} {F : Nat} (hF : j_Fx 0 260 P) (hn : 260 ≤ n) {x1 : Int32} {x2 : Int32} {I : j_M} {r : Int32 × j_M}  (h : f_M_party F x1 x2 I = some r) : j_Met l g b n P 2 jy_M_party jb_M_party 3 (some .int) [.ref (b + 215), .int x1, .int x2] I r.2 (some (.int r.1)) := by
  unfold f_M_party at h
  refine j_enter (plainFor_of_name (by decide)) (Nat.le_of_ble_eq_true rfl) [some (.ref (b + 215)), some (.int x1), some (.int x2)] rfl ?_
  intro p e R s m args below meth c X0 hnm hRc hRs
  have X : j_X p R s m args meth c g b 2 jb_M_party 3 "PleasureGardenModel" (some .int) := X0
  clear X0
  refine j_aload_n X jd_M_party_0 rfl rfl ?_
  refine j_iload_n X jd_M_party_1 rfl rfl ?_
  refine j_callVi (As := [.int x1]) (st := []) (c0 := 215) X h jc_M js_215 (j_lt rfl hn) ⟨jqc_M_isParty, jqi_M_isParty, jqv_M_isParty, jqn_M⟩ jlm_M_206 jh_M_isParty rfl (by decide) (by decide) (Nat.le_of_ble_eq_true rfl) ⟨Nat.zero_le _, Nat.zero_le _⟩ (fun v0 I0 h => k_M_isParty (r := (v0, I0)) hF hn h) jd_M_party_2 rfl (fun v1 I2 h => ?_)
  refine j_if_ne (tgt := 10) X jd_M_party_5 rfl h (fun h => ?_) (fun h => ?_)
  · refine j_iconst (v := (-1)) X jd_M_party_8 (by decide) ?_
    exact j_iret X rfl jd_M_party_9 h
  · refine j_iload_n X jd_M_party_10 rfl rfl ?_
    refine j_ite h (fun e3 h => ?_) (fun e3 h => ?_)
    · refine j_tableIn (tgt := 64) (off := 53) X jd_M_party_11 e3 (by decide) (by decide) (by decide) rfl ?_
      refine j_aload_n X jd_M_party_64 rfl rfl ?_
      refine j_getr X jf_M_32 jk_12_13 js_215 (j_lt rfl hn) (jp_215_13 hF) jd_M_party_65 ?_
      refine j_iload_n X jd_M_party_68 rfl rfl ?_
      refine j_iald X js_223 (j_lt rfl hn) jd_M_party_69 h (fun _ h => ?_)
      exact j_iret X rfl jd_M_party_70 h
    · refine j_ite h (fun e4 h => ?_) (fun e4 h => ?_)
      · refine j_tableIn (tgt := 71) (off := 60) X jd_M_party_11 e4 (by decide) (by decide) (by decide) rfl ?_
        refine j_aload_n X jd_M_party_71 rfl rfl ?_
        refine j_getr X jf_M_35 jk_12_14 js_215 (j_lt rfl hn) (jp_215_14 hF) jd_M_party_72 ?_
        refine j_iload_n X jd_M_party_75 rfl rfl ?_
        refine j_iald X js_224 (j_lt rfl hn) jd_M_party_76 h (fun _ h => ?_)
        exact j_iret X rfl jd_M_party_77 h
      · refine j_ite h (fun e5 h => ?_) (fun e5 h => ?_)
        · refine j_tableIn (tgt := 78) (off := 67) X jd_M_party_11 e5 (by decide) (by decide) (by decide) rfl ?_
          refine j_aload_n X jd_M_party_78 rfl rfl ?_
          refine j_getr X jf_M_38 jk_12_15 js_215 (j_lt rfl hn) (jp_215_15 hF) jd_M_party_79 ?_
          refine j_iload_n X jd_M_party_82 rfl rfl ?_
          refine j_iald X js_225 (j_lt rfl hn) jd_M_party_83 h (fun _ h => ?_)
          exact j_iret X rfl jd_M_party_84 h
        · refine j_ite h (fun e6 h => ?_) (fun e6 h => ?_)
          · refine j_tableIn (tgt := 85) (off := 74) X jd_M_party_11 e6 (by decide) (by decide) (by decide) rfl ?_
            refine j_aload_n X jd_M_party_85 rfl rfl ?_
            refine j_getr X jf_M_41 jk_12_16 js_215 (j_lt rfl hn) (jp_215_16 hF) jd_M_party_86 ?_
            refine j_iload_n X jd_M_party_89 rfl rfl ?_
            refine j_iald X js_226 (j_lt rfl hn) jd_M_party_90 h (fun _ h => ?_)
            exact j_iret X rfl jd_M_party_91 h
          · refine j_ite h (fun e7 h => ?_) (fun e7 h => ?_)
            · refine j_tableIn (tgt := 92) (off := 81) X jd_M_party_11 e7 (by decide) (by decide) (by decide) rfl ?_
              refine j_aload_n X jd_M_party_92 rfl rfl ?_
              refine j_getr X jf_M_44 jk_12_17 js_215 (j_lt rfl hn) (jp_215_17 hF) jd_M_party_93 ?_
              refine j_iload_n X jd_M_party_96 rfl rfl ?_
              refine j_iald X js_227 (j_lt rfl hn) jd_M_party_97 h (fun _ h => ?_)
              exact j_iret X rfl jd_M_party_98 h
            · refine j_ite h (fun e8 h => ?_) (fun e8 h => ?_)
              · refine j_tableIn (tgt := 99) (off := 88) X jd_M_party_11 e8 (by decide) (by decide) (by decide) rfl ?_
                refine j_aload_n X jd_M_party_99 rfl rfl ?_
                refine j_getr X jf_M_47 jk_12_18 js_215 (j_lt rfl hn) (jp_215_18 hF) jd_M_party_100 ?_
                refine j_iload_n X jd_M_party_103 rfl rfl ?_
                refine j_iald X js_228 (j_lt rfl hn) jd_M_party_104 h (fun _ h => ?_)
                exact j_iret X rfl jd_M_party_105 h
              · refine j_ite h (fun e9 h => ?_) (fun e9 h => ?_)
                · refine j_tableIn (tgt := 106) (off := 95) X jd_M_party_11 e9 (by decide) (by decide) (by decide) rfl ?_
                  refine j_aload_n X jd_M_party_106 rfl rfl ?_
                  refine j_getr X jf_M_50 jk_12_19 js_215 (j_lt rfl hn) (jp_215_19 hF) jd_M_party_107 ?_
                  refine j_iload_n X jd_M_party_110 rfl rfl ?_
                  refine j_iald X js_229 (j_lt rfl hn) jd_M_party_111 h (fun _ h => ?_)
                  exact j_iret X rfl jd_M_party_112 h
                · refine j_ite h (fun e10 h => ?_) (fun e10 h => ?_)
                  · refine j_tableIn (tgt := 113) (off := 102) X jd_M_party_11 e10 (by decide) (by decide) (by decide) rfl ?_
                    refine j_aload_n X jd_M_party_113 rfl rfl ?_
                    refine j_getr X jf_M_53 jk_12_20 js_215 (j_lt rfl hn) (jp_215_20 hF) jd_M_party_114 ?_
                    refine j_iload_n X jd_M_party_117 rfl rfl ?_
                    refine j_iald X js_230 (j_lt rfl hn) jd_M_party_118 h (fun _ h => ?_)
                    exact j_iret X rfl jd_M_party_119 h
                  · refine j_ite h (fun e11 h => ?_) (fun e11 h => ?_)
                    · refine j_tableIn (tgt := 120) (off := 109) X jd_M_party_11 e11 (by decide) (by decide) (by decide) rfl ?_
                      refine j_aload_n X jd_M_party_120 rfl rfl ?_
                      refine j_getr X jf_M_56 jk_12_21 js_215 (j_lt rfl hn) (jp_215_21 hF) jd_M_party_121 ?_
                      refine j_iload_n X jd_M_party_124 rfl rfl ?_
                      refine j_iald X js_231 (j_lt rfl hn) jd_M_party_125 h (fun _ h => ?_)
                      exact j_iret X rfl jd_M_party_126 h
                    · refine j_ite h (fun e12 h => ?_) (fun e12 h => ?_)
                      · refine j_tableIn (tgt := 127) (off := 116) X jd_M_party_11 e12 (by decide) (by decide) (by decide) rfl ?_
                        refine j_aload_n X jd_M_party_127 rfl rfl ?_
                        refine j_getr X jf_M_59 jk_12_22 js_215 (j_lt rfl hn) (jp_215_22 hF) jd_M_party_128 ?_
                        refine j_iload_n X jd_M_party_131 rfl rfl ?_
                        refine j_iald X js_232 (j_lt rfl hn) jd_M_party_132 h (fun _ h => ?_)
                        exact j_iret X rfl jd_M_party_133 h
                      · refine j_tableDef (tgt := 134) X [0, 1, 2, 3, 4, 5, 6, 7, 8, 9] jd_M_party_11 (j_allc e3 (j_allc e4 (j_allc e5 (j_allc e6 (j_allc e7 (j_allc e8 (j_allc e9 (j_allc e10 (j_allc e11 (j_allc e12 j_all0)))))))))) (by decide) (by decide) (by decide) (by decide) rfl ?_
                        refine j_iconst (v := (-1)) X jd_M_party_134 (by decide) ?_
                        exact j_iret X rfl jd_M_party_135 h
-- PleasureGardenModel.heads(I)I
theorem jd_M_heads_0 : decode jb_M_heads 0 = .ok (.aload_n 0, 1) := by decide +kernel
theorem jd_M_heads_1 : decode jb_M_heads 1 = .ok (.iload_n 1, 1) := by decide +kernel
theorem jd_M_heads_2 : decode jb_M_heads 2 = .ok (.invokevirtual 162, 3) := by decide +kernel
theorem jd_M_heads_5 : decode jb_M_heads 5 = .ok (.ifCond .eq 11, 3) := by decide +kernel
theorem jd_M_heads_8 : decode jb_M_heads 8 = .ok (.aload_n 0, 1) := by decide +kernel
theorem jd_M_heads_9 : decode jb_M_heads 9 = .ok (.iload_n 1, 1) := by decide +kernel
theorem jd_M_heads_10 : decode jb_M_heads 10 = .ok (.invokevirtual 216, 3) := by decide +kernel
theorem jd_M_heads_13 : decode jb_M_heads 13 = .ok (.goto 4, 3) := by decide +kernel
theorem jd_M_heads_16 : decode jb_M_heads 16 = .ok (.iconst (-1), 1) := by decide +kernel
theorem jd_M_heads_17 : decode jb_M_heads 17 = .ok (.ireturn, 1) := by decide +kernel
def f_M_heads (F : Nat) (x1 : Int32) (I : j_M) : Option (Int32 × j_M) := j_bd (f_M_isPlace F x1 I) (fun v1 I2 => (if v1 = 0 then some ((-1), I2) else j_bd (f_M_headsAt F x1 I2) (fun v3 I4 => some (v3, I4))))
set_option maxRecDepth 100000 in
set_option maxHeartbeats 4000000 in
theorem k_M_heads {l : Launch} {g : j_G} {b n : Nat} {P : j_R} {F : Nat} (hF : j_Fx 0 260 P) (hn : 260 ≤ n) {x1 : Int32} {I : j_M} {r : Int32 × j_M}  (h : f_M_heads F x1 I = some r) : j_Met l g b n P 2 jy_M_heads jb_M_heads 2 (some .int) [.ref (b + 215), .int x1] I r.2 (some (.int r.1)) := by
  unfold f_M_heads at h
  refine j_enter (plainFor_of_name (by decide)) (Nat.le_of_ble_eq_true rfl) [some (.ref (b + 215)), some (.int x1)] rfl ?_
  intro p e R s m args below meth c X0 hnm hRc hRs
  have X : j_X p R s m args meth c g b 2 jb_M_heads 2 "PleasureGardenModel" (some .int) := X0
  clear X0
  refine j_aload_n X jd_M_heads_0 rfl rfl ?_
  refine j_iload_n X jd_M_heads_1 rfl rfl ?_
  refine j_callVi (As := [.int x1]) (st := []) (c0 := 215) X h jc_M js_215 (j_lt rfl hn) ⟨jqc_M_isPlace, jqi_M_isPlace, jqv_M_isPlace, jqn_M⟩ jlm_M_162 jh_M_isPlace rfl (by decide) (by decide) (Nat.le_of_ble_eq_true rfl) ⟨Nat.zero_le _, Nat.zero_le _⟩ (fun v0 I0 h => k_M_isPlace (r := (v0, I0)) hF hn h) jd_M_heads_2 rfl (fun v1 I2 h => ?_)
  refine j_if_eq (tgt := 16) X jd_M_heads_5 rfl h (fun h => ?_) (fun h => ?_)
  · refine j_iconst (v := (-1)) X jd_M_heads_16 (by decide) ?_
    exact j_iret X rfl jd_M_heads_17 h
  · refine j_aload_n X jd_M_heads_8 rfl rfl ?_
    refine j_iload_n X jd_M_heads_9 rfl rfl ?_
    refine j_callVi (As := [.int x1]) (st := []) (c0 := 215) X h jc_M js_215 (j_lt rfl hn) ⟨jqc_M_headsAt, jqi_M_headsAt, jqv_M_headsAt, jqn_M⟩ jlm_M_216 jh_M_headsAt rfl (by decide) (by decide) (Nat.le_of_ble_eq_true rfl) ⟨Nat.zero_le _, Nat.zero_le _⟩ (fun v0 I0 h => k_M_headsAt (r := (v0, I0)) hF hn h) jd_M_heads_10 rfl (fun v3 I4 h => ?_)
    refine j_goto (tgt := 17) X jd_M_heads_13 rfl ?_
    exact j_iret X rfl jd_M_heads_17 h
-- PleasureGardenModel.fuse(III)I
theorem jd_M_fuse_0 : decode jb_M_fuse 0 = .ok (.aload_n 0, 1) := by decide +kernel
theorem jd_M_fuse_1 : decode jb_M_fuse 1 = .ok (.iload_n 1, 1) := by decide +kernel
theorem jd_M_fuse_2 : decode jb_M_fuse 2 = .ok (.invokevirtual 235, 3) := by decide +kernel
theorem jd_M_fuse_5 : decode jb_M_fuse 5 = .ok (.ifCond .eq 27, 3) := by decide +kernel
theorem jd_M_fuse_8 : decode jb_M_fuse 8 = .ok (.aload_n 0, 1) := by decide +kernel
theorem jd_M_fuse_9 : decode jb_M_fuse 9 = .ok (.iload_n 2, 1) := by decide +kernel
theorem jd_M_fuse_10 : decode jb_M_fuse 10 = .ok (.invokevirtual 235, 3) := by decide +kernel
theorem jd_M_fuse_13 : decode jb_M_fuse 13 = .ok (.ifCond .eq 19, 3) := by decide +kernel
theorem jd_M_fuse_16 : decode jb_M_fuse 16 = .ok (.iload_n 1, 1) := by decide +kernel
theorem jd_M_fuse_17 : decode jb_M_fuse 17 = .ok (.iload_n 2, 1) := by decide +kernel
theorem jd_M_fuse_18 : decode jb_M_fuse 18 = .ok (.if_icmp .eq 14, 3) := by decide +kernel
theorem jd_M_fuse_21 : decode jb_M_fuse 21 = .ok (.iload_n 3, 1) := by decide +kernel
theorem jd_M_fuse_22 : decode jb_M_fuse 22 = .ok (.iconst 1, 1) := by decide +kernel
theorem jd_M_fuse_23 : decode jb_M_fuse 23 = .ok (.sipush 999, 3) := by decide +kernel
theorem jd_M_fuse_26 : decode jb_M_fuse 26 = .ok (.invokestatic 158, 3) := by decide +kernel
theorem jd_M_fuse_29 : decode jb_M_fuse 29 = .ok (.ifCond .ne 5, 3) := by decide +kernel
theorem jd_M_fuse_32 : decode jb_M_fuse 32 = .ok (.iconst (-1), 1) := by decide +kernel
theorem jd_M_fuse_33 : decode jb_M_fuse 33 = .ok (.ireturn, 1) := by decide +kernel
theorem jd_M_fuse_34 : decode jb_M_fuse 34 = .ok (.aload_n 0, 1) := by decide +kernel
theorem jd_M_fuse_35 : decode jb_M_fuse 35 = .ok (.getfield 238, 3) := by decide +kernel
theorem jd_M_fuse_38 : decode jb_M_fuse 38 = .ok (.bipush 80, 2) := by decide +kernel
theorem jd_M_fuse_40 : decode jb_M_fuse 40 = .ok (.if_icmp .ne 6, 3) := by decide +kernel
theorem jd_M_fuse_43 : decode jb_M_fuse 43 = .ok (.bipush (-3), 2) := by decide +kernel
theorem jd_M_fuse_45 : decode jb_M_fuse 45 = .ok (.ireturn, 1) := by decide +kernel
theorem jd_M_fuse_46 : decode jb_M_fuse 46 = .ok (.aload_n 0, 1) := by decide +kernel
theorem jd_M_fuse_47 : decode jb_M_fuse 47 = .ok (.getfield 70, 3) := by decide +kernel
theorem jd_M_fuse_50 : decode jb_M_fuse 50 = .ok (.aload_n 0, 1) := by decide +kernel
theorem jd_M_fuse_51 : decode jb_M_fuse 51 = .ok (.getfield 238, 3) := by decide +kernel
theorem jd_M_fuse_54 : decode jb_M_fuse 54 = .ok (.iload_n 1, 1) := by decide +kernel
theorem jd_M_fuse_55 : decode jb_M_fuse 55 = .ok (.iastore, 1) := by decide +kernel
theorem jd_M_fuse_56 : decode jb_M_fuse 56 = .ok (.aload_n 0, 1) := by decide +kernel
theorem jd_M_fuse_57 : decode jb_M_fuse 57 = .ok (.getfield 73, 3) := by decide +kernel
theorem jd_M_fuse_60 : decode jb_M_fuse 60 = .ok (.aload_n 0, 1) := by decide +kernel
theorem jd_M_fuse_61 : decode jb_M_fuse 61 = .ok (.getfield 238, 3) := by decide +kernel
theorem jd_M_fuse_64 : decode jb_M_fuse 64 = .ok (.iload_n 2, 1) := by decide +kernel
theorem jd_M_fuse_65 : decode jb_M_fuse 65 = .ok (.iastore, 1) := by decide +kernel
theorem jd_M_fuse_66 : decode jb_M_fuse 66 = .ok (.aload_n 0, 1) := by decide +kernel
theorem jd_M_fuse_67 : decode jb_M_fuse 67 = .ok (.getfield 76, 3) := by decide +kernel
theorem jd_M_fuse_70 : decode jb_M_fuse 70 = .ok (.aload_n 0, 1) := by decide +kernel
theorem jd_M_fuse_71 : decode jb_M_fuse 71 = .ok (.getfield 238, 3) := by decide +kernel
theorem jd_M_fuse_74 : decode jb_M_fuse 74 = .ok (.iload_n 3, 1) := by decide +kernel
theorem jd_M_fuse_75 : decode jb_M_fuse 75 = .ok (.iastore, 1) := by decide +kernel
theorem jd_M_fuse_76 : decode jb_M_fuse 76 = .ok (.aload_n 0, 1) := by decide +kernel
theorem jd_M_fuse_77 : decode jb_M_fuse 77 = .ok (.dup, 1) := by decide +kernel
theorem jd_M_fuse_78 : decode jb_M_fuse 78 = .ok (.getfield 238, 3) := by decide +kernel
theorem jd_M_fuse_81 : decode jb_M_fuse 81 = .ok (.iconst 1, 1) := by decide +kernel
theorem jd_M_fuse_82 : decode jb_M_fuse 82 = .ok (.iadd, 1) := by decide +kernel
theorem jd_M_fuse_83 : decode jb_M_fuse 83 = .ok (.putfield 238, 3) := by decide +kernel
theorem jd_M_fuse_86 : decode jb_M_fuse 86 = .ok (.aload_n 0, 1) := by decide +kernel
theorem jd_M_fuse_87 : decode jb_M_fuse 87 = .ok (.getfield 238, 3) := by decide +kernel
theorem jd_M_fuse_90 : decode jb_M_fuse 90 = .ok (.ireturn, 1) := by decide +kernel
def f_M_fuse (F : Nat) (x1 : Int32) (x2 : Int32) (x3 : Int32) (I : j_M) : Option (Int32 × j_M) := j_bd (f_M_isLamp F x1 I) (fun v1 I2 => (if v1 = 0 then some ((-1), I2) else j_bd (f_M_isLamp F x2 I2) (fun v3 I4 => (if v3 = 0 then some ((-1), I4) else (if x1 = x2 then some ((-1), I4) else j_bd (f_M_among F x3 1 999 I4) (fun v5 I6 => (if v5 = 0 then some ((-1), I6) else (if (I6 215 30) = 80 then some ((-3), I6) else (if j_ok (I6 215 30) 80 = true then j_let (j_wr I6 235 (j_ix (I6 215 30)) x1) (fun I7 => (if j_ok (I7 215 30) 80 = true then j_let (j_wr I7 236 (j_ix (I7 215 30)) x2) (fun I8 => (if j_ok (I8 215 30) 80 = true then j_let (j_wr I8 237 (j_ix (I8 215 30)) x3) (fun I9 => j_let (j_wr I9 215 30 ((I9 215 30) + 1)) (fun I10 => some (I10 215 30, I10))) else none)) else none)) else none)))))))))
set_option maxRecDepth 100000 in
set_option maxHeartbeats 4000000 in
theorem k_M_fuse {l : Launch} {g : j_G} {b n : Nat} {P : j_R} {F : Nat} (hF : j_Fx 0 260 P) (hn : 260 ≤ n) {x1 : Int32} {x2 : Int32} {x3 : Int32} {I : j_M} {r : Int32 × j_M}  (h : f_M_fuse F x1 x2 x3 I = some r) : j_Met l g b n P 2 jy_M_fuse jb_M_fuse 4 (some .int) [.ref (b + 215), .int x1, .int x2, .int x3] I r.2 (some (.int r.1)) := by
  unfold f_M_fuse at h
  refine j_enter (plainFor_of_name (by decide)) (Nat.le_of_ble_eq_true rfl) [some (.ref (b + 215)), some (.int x1), some (.int x2), some (.int x3)] rfl ?_
  intro p e R s m args below meth c X0 hnm hRc hRs
  have X : j_X p R s m args meth c g b 2 jb_M_fuse 4 "PleasureGardenModel" (some .int) := X0
  clear X0
  refine j_aload_n X jd_M_fuse_0 rfl rfl ?_
  refine j_iload_n X jd_M_fuse_1 rfl rfl ?_
  refine j_callVi (As := [.int x1]) (st := []) (c0 := 215) X h jc_M js_215 (j_lt rfl hn) ⟨jqc_M_isLamp, jqi_M_isLamp, jqv_M_isLamp, jqn_M⟩ jlm_M_235 jh_M_isLamp rfl (by decide) (by decide) (Nat.le_of_ble_eq_true rfl) ⟨Nat.zero_le _, Nat.zero_le _⟩ (fun v0 I0 h => k_M_isLamp (r := (v0, I0)) hF hn h) jd_M_fuse_2 rfl (fun v1 I2 h => ?_)
  refine j_if_eq (tgt := 32) X jd_M_fuse_5 rfl h (fun h => ?_) (fun h => ?_)
  · refine j_iconst (v := (-1)) X jd_M_fuse_32 (by decide) ?_
    exact j_iret X rfl jd_M_fuse_33 h
  · refine j_aload_n X jd_M_fuse_8 rfl rfl ?_
    refine j_iload_n X jd_M_fuse_9 rfl rfl ?_
    refine j_callVi (As := [.int x2]) (st := []) (c0 := 215) X h jc_M js_215 (j_lt rfl hn) ⟨jqc_M_isLamp, jqi_M_isLamp, jqv_M_isLamp, jqn_M⟩ jlm_M_235 jh_M_isLamp rfl (by decide) (by decide) (Nat.le_of_ble_eq_true rfl) ⟨Nat.zero_le _, Nat.zero_le _⟩ (fun v0 I0 h => k_M_isLamp (r := (v0, I0)) hF hn h) jd_M_fuse_10 rfl (fun v3 I4 h => ?_)
    refine j_if_eq (tgt := 32) X jd_M_fuse_13 rfl h (fun h => ?_) (fun h => ?_)
    · refine j_iconst (v := (-1)) X jd_M_fuse_32 (by decide) ?_
      exact j_iret X rfl jd_M_fuse_33 h
    · refine j_iload_n X jd_M_fuse_16 rfl rfl ?_
      refine j_iload_n X jd_M_fuse_17 rfl rfl ?_
      refine j_icmp_eq (tgt := 32) X jd_M_fuse_18 rfl h (fun h => ?_) (fun h => ?_)
      · refine j_iconst (v := (-1)) X jd_M_fuse_32 (by decide) ?_
        exact j_iret X rfl jd_M_fuse_33 h
      · refine j_iload_n X jd_M_fuse_21 rfl rfl ?_
        refine j_iconst (v := 1) X jd_M_fuse_22 (by decide) ?_
        refine j_sipush (v := 999) X jd_M_fuse_23 (by decide) ?_
        refine j_callSi (As := [.int x3, .int 1, .int 999]) (st := []) X h ⟨jqc_M_among, jqs_M_among, jqn_M⟩ jlm_M_158 jh_M_among.2 rfl (by decide) (by decide) (Nat.le_of_ble_eq_true rfl) ⟨Nat.zero_le _, Nat.zero_le _⟩ (fun v0 I0 h => k_M_among (r := (v0, I0)) hF hn h) jd_M_fuse_26 rfl (fun v5 I6 h => ?_)
        refine j_if_ne (tgt := 34) X jd_M_fuse_29 rfl h (fun h => ?_) (fun h => ?_)
        · refine j_iconst (v := (-1)) X jd_M_fuse_32 (by decide) ?_
          exact j_iret X rfl jd_M_fuse_33 h
        · refine j_aload_n X jd_M_fuse_34 rfl rfl ?_
          refine j_get X jf_M_238 jk_12_30 js_215 (j_lt rfl hn) jd_M_fuse_35 ?_
          refine j_bipush (v := 80) X jd_M_fuse_38 (by decide) ?_
          refine j_icmp_ne (tgt := 46) X jd_M_fuse_40 rfl h (fun h => ?_) (fun h => ?_)
          · refine j_bipush (v := (-3)) X jd_M_fuse_43 (by decide) ?_
            exact j_iret X rfl jd_M_fuse_45 h
          · refine j_aload_n X jd_M_fuse_46 rfl rfl ?_
            refine j_getr X jf_M_70 jk_12_31 js_215 (j_lt rfl hn) (jp_215_31 hF) jd_M_fuse_47 ?_
            refine j_aload_n X jd_M_fuse_50 rfl rfl ?_
            refine j_get X jf_M_238 jk_12_30 js_215 (j_lt rfl hn) jd_M_fuse_51 ?_
            refine j_iload_n X jd_M_fuse_54 rfl rfl ?_
            refine j_iast X js_235 (j_lt rfl hn) jd_M_fuse_55 h (fun h => ?_)
            refine j_mem h (fun I7 h => ?_)
            refine j_aload_n X jd_M_fuse_56 rfl rfl ?_
            refine j_getr X jf_M_73 jk_12_32 js_215 (j_lt rfl hn) (jp_215_32 hF) jd_M_fuse_57 ?_
            refine j_aload_n X jd_M_fuse_60 rfl rfl ?_
            refine j_get X jf_M_238 jk_12_30 js_215 (j_lt rfl hn) jd_M_fuse_61 ?_
            refine j_iload_n X jd_M_fuse_64 rfl rfl ?_
            refine j_iast X js_236 (j_lt rfl hn) jd_M_fuse_65 h (fun h => ?_)
            refine j_mem h (fun I8 h => ?_)
            refine j_aload_n X jd_M_fuse_66 rfl rfl ?_
            refine j_getr X jf_M_76 jk_12_33 js_215 (j_lt rfl hn) (jp_215_33 hF) jd_M_fuse_67 ?_
            refine j_aload_n X jd_M_fuse_70 rfl rfl ?_
            refine j_get X jf_M_238 jk_12_30 js_215 (j_lt rfl hn) jd_M_fuse_71 ?_
            refine j_iload_n X jd_M_fuse_74 rfl rfl ?_
            refine j_iast X js_237 (j_lt rfl hn) jd_M_fuse_75 h (fun h => ?_)
            refine j_mem h (fun I9 h => ?_)
            refine j_aload_n X jd_M_fuse_76 rfl rfl ?_
            refine j_dup X jd_M_fuse_77 rfl ?_
            refine j_get X jf_M_238 jk_12_30 js_215 (j_lt rfl hn) jd_M_fuse_78 ?_
            refine j_iconst (v := 1) X jd_M_fuse_81 (by decide) ?_
            refine j_iadd X jd_M_fuse_82 ?_
            refine j_puti X jt_M jto_M jn_M jf_M_238 jk_12_30 js_215 (j_lt rfl hn) (Or.inl rfl) rfl jd_M_fuse_83 ?_
            refine j_mem h (fun I10 h => ?_)
            refine j_aload_n X jd_M_fuse_86 rfl rfl ?_
            refine j_get X jf_M_238 jk_12_30 js_215 (j_lt rfl hn) jd_M_fuse_87 ?_
            exact j_iret X rfl jd_M_fuse_90 h
-- PleasureGardenModel.light(II)I
theorem jd_M_light_0 : decode jb_M_light 0 = .ok (.aload_n 0, 1) := by decide +kernel
theorem jd_M_light_1 : decode jb_M_light 1 = .ok (.iload_n 1, 1) := by decide +kernel
theorem jd_M_light_2 : decode jb_M_light 2 = .ok (.invokevirtual 235, 3) := by decide +kernel
theorem jd_M_light_5 : decode jb_M_light 5 = .ok (.ifCond .eq 16, 3) := by decide +kernel
theorem jd_M_light_8 : decode jb_M_light 8 = .ok (.iload_n 2, 1) := by decide +kernel
theorem jd_M_light_9 : decode jb_M_light 9 = .ok (.iconst (-1), 1) := by decide +kernel
theorem jd_M_light_10 : decode jb_M_light 10 = .ok (.if_icmp .eq 13, 3) := by decide +kernel
theorem jd_M_light_13 : decode jb_M_light 13 = .ok (.aload_n 0, 1) := by decide +kernel
theorem jd_M_light_14 : decode jb_M_light 14 = .ok (.iload_n 2, 1) := by decide +kernel
theorem jd_M_light_15 : decode jb_M_light 15 = .ok (.invokevirtual 235, 3) := by decide +kernel
theorem jd_M_light_18 : decode jb_M_light 18 = .ok (.ifCond .ne 5, 3) := by decide +kernel
theorem jd_M_light_21 : decode jb_M_light 21 = .ok (.iconst (-1), 1) := by decide +kernel
theorem jd_M_light_22 : decode jb_M_light 22 = .ok (.ireturn, 1) := by decide +kernel
theorem jd_M_light_23 : decode jb_M_light 23 = .ok (.aload_n 0, 1) := by decide +kernel
theorem jd_M_light_24 : decode jb_M_light 24 = .ok (.iload_n 1, 1) := by decide +kernel
theorem jd_M_light_25 : decode jb_M_light 25 = .ok (.iload_n 2, 1) := by decide +kernel
theorem jd_M_light_26 : decode jb_M_light 26 = .ok (.invokevirtual 247, 3) := by decide +kernel
theorem jd_M_light_29 : decode jb_M_light 29 = .ok (.iconst 0, 1) := by decide +kernel
theorem jd_M_light_30 : decode jb_M_light 30 = .ok (.istore_n 3, 1) := by decide +kernel
theorem jd_M_light_31 : decode jb_M_light 31 = .ok (.iload_n 3, 1) := by decide +kernel
theorem jd_M_light_32 : decode jb_M_light 32 = .ok (.aload_n 0, 1) := by decide +kernel
theorem jd_M_light_33 : decode jb_M_light 33 = .ok (.getfield 232, 3) := by decide +kernel
theorem jd_M_light_36 : decode jb_M_light 36 = .ok (.if_icmp .ge 21, 3) := by decide +kernel
theorem jd_M_light_39 : decode jb_M_light 39 = .ok (.aload_n 0, 1) := by decide +kernel
theorem jd_M_light_40 : decode jb_M_light 40 = .ok (.getfield 82, 3) := by decide +kernel
theorem jd_M_light_43 : decode jb_M_light 43 = .ok (.iload_n 3, 1) := by decide +kernel
theorem jd_M_light_44 : decode jb_M_light 44 = .ok (.aload_n 0, 1) := by decide +kernel
theorem jd_M_light_45 : decode jb_M_light 45 = .ok (.getfield 79, 3) := by decide +kernel
theorem jd_M_light_48 : decode jb_M_light 48 = .ok (.iload_n 3, 1) := by decide +kernel
theorem jd_M_light_49 : decode jb_M_light 49 = .ok (.iaload, 1) := by decide +kernel
theorem jd_M_light_50 : decode jb_M_light 50 = .ok (.iastore, 1) := by decide +kernel
theorem jd_M_light_51 : decode jb_M_light 51 = .ok (.iinc 3 1, 3) := by decide +kernel
theorem jd_M_light_54 : decode jb_M_light 54 = .ok (.goto (-23), 3) := by decide +kernel
theorem jd_M_light_57 : decode jb_M_light 57 = .ok (.aload_n 0, 1) := by decide +kernel
theorem jd_M_light_58 : decode jb_M_light 58 = .ok (.iconst 1, 1) := by decide +kernel
theorem jd_M_light_59 : decode jb_M_light 59 = .ok (.putfield 250, 3) := by decide +kernel
theorem jd_M_light_62 : decode jb_M_light 62 = .ok (.aload_n 0, 1) := by decide +kernel
theorem jd_M_light_63 : decode jb_M_light 63 = .ok (.aload_n 0, 1) := by decide +kernel
theorem jd_M_light_64 : decode jb_M_light 64 = .ok (.getfield 171, 3) := by decide +kernel
theorem jd_M_light_67 : decode jb_M_light 67 = .ok (.putfield 254, 3) := by decide +kernel
theorem jd_M_light_70 : decode jb_M_light 70 = .ok (.aload_n 0, 1) := by decide +kernel
theorem jd_M_light_71 : decode jb_M_light 71 = .ok (.getfield 241, 3) := by decide +kernel
theorem jd_M_light_74 : decode jb_M_light 74 = .ok (.ireturn, 1) := by decide +kernel
def f_M_light_31b (F : Nat) (kb31 : Int32 → j_M → Option (Int32 × j_M)) (x3 : Int32) (I : j_M) : Option (Int32 × j_M) := (if (I 215 28) ≤ x3 then j_let (j_wr I 215 36 1) (fun I1 => j_let (j_wr I1 215 37 (I1 215 2)) (fun I2 => some (I2 215 38, I2))) else (if j_ok x3 40 = true then (if j_ok x3 40 = true then j_let (j_wr I 239 (j_ix x3) (I 238 (j_ix x3))) (fun I3 => j_let (x3 + 1) (fun v4 => kb31 v4 I3)) else none) else none))
def f_M_light_31 (F : Nat)  (x3 : Int32) (I : j_M) : Option (Int32 × j_M) := j_it (fun (again : Int32 × j_M → Option (Int32 × j_M)) (q : Int32 × j_M) => f_M_light_31b F  (fun x3 I => again (x3, I))  q.1 q.2) F (x3, I)
def f_M_light_23 (F : Nat)  (x1 : Int32) (x2 : Int32) (I : j_M) : Option (Int32 × j_M) := j_bd (f_M_find F x1 x2 I) (fun v5 I6 => f_M_light_31 F 0 I6)
def f_M_light (F : Nat) (x1 : Int32) (x2 : Int32) (I : j_M) : Option (Int32 × j_M) := j_bd (f_M_isLamp F x1 I) (fun v7 I8 => (if v7 = 0 then some ((-1), I8) else (if x2 = (-1) then f_M_light_23 F x1 x2 I8 else j_bd (f_M_isLamp F x2 I8) (fun v9 I10 => (if v9 = 0 then some ((-1), I10) else f_M_light_23 F x1 x2 I10)))))
set_option maxRecDepth 100000 in
set_option maxHeartbeats 4000000 in
theorem k_M_light_31b {p : Program} {l : Launch} {e : Env} {R : Room} {s : State} {m : MethodId} {args : Array Value} {below : List Frame} {meth : Method} {c : Code} {g : j_G} {b n : Nat} {P : j_R} {F : Nat} (hF : j_Fx 0 260 P) (hn : 260 ≤ n) (X : j_X p R s m args meth c g b 2 jb_M_light 4 "PleasureGardenModel" (some .int)) {kb31 : Int32 → j_M → Option (Int32 × j_M)} (hkb31 : ∀ (x3 : Int32) (I : j_M) (r : Int32 × j_M), kb31 x3 I = some r → j_W p l e R s m args below meth c 4 g b n 0 0 (j_Qi g b n P below args s r) I P 31 [some (.ref (b + 215)), none, none, some (.int x3)] []) {x3 : Int32} {I : j_M} {r : Int32 × j_M}  (h : f_M_light_31b F kb31 x3 I = some r) : j_W p l e R s m args below meth c 4 g b n 0 0 (j_Qi g b n P below args s r) I P 31 [some (.ref (b + 215)), none, none, some (.int x3)] [] := by
  unfold f_M_light_31b at h
  refine j_iload_n X jd_M_light_31 rfl rfl ?_
  refine j_aload_n X jd_M_light_32 rfl rfl ?_
  refine j_get X jf_M_232 jk_12_28 js_215 (j_lt rfl hn) jd_M_light_33 ?_
  refine j_icmp_ge (tgt := 57) X jd_M_light_36 rfl h (fun h => ?_) (fun h => ?_)
  · refine j_aload_n X jd_M_light_57 rfl rfl ?_
    refine j_iconst (v := 1) X jd_M_light_58 (by decide) ?_
    refine j_put X jt_M jto_M jn_M jf_M_250 jk_12_36 js_215 (j_lt rfl hn) (Or.inl rfl) rfl (by decide) (by decide) jd_M_light_59 ?_
    refine j_mem h (fun I1 h => ?_)
    refine j_aload_n X jd_M_light_62 rfl rfl ?_
    refine j_aload_n X jd_M_light_63 rfl rfl ?_
    refine j_get X jf_M_171 jk_12_2 js_215 (j_lt rfl hn) jd_M_light_64 ?_
    refine j_puti X jt_M jto_M jn_M jf_M_254 jk_12_37 js_215 (j_lt rfl hn) (Or.inl rfl) rfl jd_M_light_67 ?_
    refine j_mem h (fun I2 h => ?_)
    refine j_aload_n X jd_M_light_70 rfl rfl ?_
    refine j_get X jf_M_241 jk_12_38 js_215 (j_lt rfl hn) jd_M_light_71 ?_
    exact j_iret X rfl jd_M_light_74 h
  · refine j_aload_n X jd_M_light_39 rfl rfl ?_
    refine j_getr X jf_M_82 jk_12_35 js_215 (j_lt rfl hn) (jp_215_35 hF) jd_M_light_40 ?_
    refine j_iload_n X jd_M_light_43 rfl rfl ?_
    refine j_aload_n X jd_M_light_44 rfl rfl ?_
    refine j_getr X jf_M_79 jk_12_34 js_215 (j_lt rfl hn) (jp_215_34 hF) jd_M_light_45 ?_
    refine j_iload_n X jd_M_light_48 rfl rfl ?_
    refine j_iald X js_238 (j_lt rfl hn) jd_M_light_49 h (fun _ h => ?_)
    refine j_iast X js_239 (j_lt rfl hn) jd_M_light_50 h (fun h => ?_)
    refine j_mem h (fun I3 h => ?_)
    obtain ⟨v4, ev4, h⟩ := j_ex h
    refine j_iinc (v := v4) (lv' := [some (.ref (b + 215)), none, none, some (.int v4)]) X jd_M_light_51 rfl (by rw [ev4]; rfl) (by decide) rfl ?_
    refine j_goto (tgt := 31) X jd_M_light_54 rfl ?_
    exact hkb31 _ _ _ h
set_option maxRecDepth 100000 in
set_option maxHeartbeats 4000000 in
theorem k_M_light_31 {p : Program} {l : Launch} {e : Env} {R : Room} {s : State} {m : MethodId} {args : Array Value} {below : List Frame} {meth : Method} {c : Code} {g : j_G} {b n : Nat} {P : j_R} {F : Nat} (hF : j_Fx 0 260 P) (hn : 260 ≤ n) (X : j_X p R s m args meth c g b 2 jb_M_light 4 "PleasureGardenModel" (some .int))  {x3 : Int32} {I : j_M} {r : Int32 × j_M} (h : f_M_light_31 F x3 I = some r) : j_W p l e R s m args below meth c 4 g b n 0 0 (j_Qi g b n P below args s r) I P 31 [some (.ref (b + 215)), none, none, some (.int x3)] [] := by
  refine j_loop (G := fun (q : Int32 × j_M) (r : Int32 × j_M) => j_W p l e R s m args below meth c 4 g b n 0 0 (j_Qi g b n P below args s r) q.2 P 31 [some (.ref (b + 215)), none, none, some (.int (q.1))] []) ?_ F (x3, I) r h
  intro again hrec0 q r h
  exact k_M_light_31b hF hn X (fun x3 I r h => hrec0 (x3, I) r h)  h
set_option maxRecDepth 100000 in
set_option maxHeartbeats 4000000 in
theorem k_M_light_23 {p : Program} {l : Launch} {e : Env} {R : Room} {s : State} {m : MethodId} {args : Array Value} {below : List Frame} {meth : Method} {c : Code} {g : j_G} {b n : Nat} {P : j_R} {F : Nat} (hF : j_Fx 0 260 P) (hn : 260 ≤ n) (X : j_X p R s m args meth c g b 2 jb_M_light 4 "PleasureGardenModel" (some .int))  {x1 : Int32} {x2 : Int32} {I : j_M} {r : Int32 × j_M}  (h : f_M_light_23 F x1 x2 I = some r) : j_W p l e R s m args below meth c 4 g b n 0 0 (j_Qi g b n P below args s r) I P 23 [some (.ref (b + 215)), some (.int x1), some (.int x2), none] [] := by
  unfold f_M_light_23 at h
  refine j_aload_n X jd_M_light_23 rfl rfl ?_
  refine j_iload_n X jd_M_light_24 rfl rfl ?_
  refine j_iload_n X jd_M_light_25 rfl rfl ?_
  refine j_callVv (As := [.int x1, .int x2]) (st := []) (c0 := 215) X h jc_M js_215 (j_lt rfl hn) ⟨jqc_M_find, jqi_M_find, jqv_M_find, jqn_M⟩ jlm_M_247 jh_M_find rfl (by decide) (by decide) (Nat.le_of_ble_eq_true rfl) ⟨Nat.zero_le _, Nat.zero_le _⟩ (fun v0 I0 h => k_M_find (r := (v0, I0)) hF hn h) jd_M_light_26 rfl (fun v5 I6 h => ?_)
  refine j_iconst (v := 0) X jd_M_light_29 (by decide) ?_
  refine j_istore_n (lv' := [some (.ref (b + 215)), some (.int x1), some (.int x2), some (.int 0)]) X jd_M_light_30 rfl (by decide) rfl ?_
  refine j_sub [true, false, false, true] (lv' := [some (.ref (b + 215)), none, none, some (.int 0)]) rfl ?_
  exact k_M_light_31 hF hn X h
set_option maxRecDepth 100000 in
set_option maxHeartbeats 4000000 in
theorem k_M_light {l : Launch} {g : j_G} {b n : Nat} {P : j_R} {F : Nat} (hF : j_Fx 0 260 P) (hn : 260 ≤ n) {x1 : Int32} {x2 : Int32} {I : j_M} {r : Int32 × j_M}  (h : f_M_light F x1 x2 I = some r) : j_Met l g b n P 2 jy_M_light jb_M_light 4 (some .int) [.ref (b + 215), .int x1, .int x2] I r.2 (some (.int r.1)) := by
  unfold f_M_light at h
  refine j_enter (plainFor_of_name (by decide)) (Nat.le_of_ble_eq_true rfl) [some (.ref (b + 215)), some (.int x1), some (.int x2), none] rfl ?_
  intro p e R s m args below meth c X0 hnm hRc hRs
  have X : j_X p R s m args meth c g b 2 jb_M_light 4 "PleasureGardenModel" (some .int) := X0
  clear X0
  refine j_aload_n X jd_M_light_0 rfl rfl ?_
  refine j_iload_n X jd_M_light_1 rfl rfl ?_
  refine j_callVi (As := [.int x1]) (st := []) (c0 := 215) X h jc_M js_215 (j_lt rfl hn) ⟨jqc_M_isLamp, jqi_M_isLamp, jqv_M_isLamp, jqn_M⟩ jlm_M_235 jh_M_isLamp rfl (by decide) (by decide) (Nat.le_of_ble_eq_true rfl) ⟨Nat.zero_le _, Nat.zero_le _⟩ (fun v0 I0 h => k_M_isLamp (r := (v0, I0)) hF hn h) jd_M_light_2 rfl (fun v7 I8 h => ?_)
  refine j_if_eq (tgt := 21) X jd_M_light_5 rfl h (fun h => ?_) (fun h => ?_)
  · refine j_iconst (v := (-1)) X jd_M_light_21 (by decide) ?_
    exact j_iret X rfl jd_M_light_22 h
  · refine j_iload_n X jd_M_light_8 rfl rfl ?_
    refine j_iconst (v := (-1)) X jd_M_light_9 (by decide) ?_
    refine j_icmp_eq (tgt := 23) X jd_M_light_10 rfl h (fun h => ?_) (fun h => ?_)
    · exact k_M_light_23 hF hn X h
    · refine j_aload_n X jd_M_light_13 rfl rfl ?_
      refine j_iload_n X jd_M_light_14 rfl rfl ?_
      refine j_callVi (As := [.int x2]) (st := []) (c0 := 215) X h jc_M js_215 (j_lt rfl hn) ⟨jqc_M_isLamp, jqi_M_isLamp, jqv_M_isLamp, jqn_M⟩ jlm_M_235 jh_M_isLamp rfl (by decide) (by decide) (Nat.le_of_ble_eq_true rfl) ⟨Nat.zero_le _, Nat.zero_le _⟩ (fun v0 I0 h => k_M_isLamp (r := (v0, I0)) hF hn h) jd_M_light_15 rfl (fun v9 I10 h => ?_)
      refine j_if_ne (tgt := 23) X jd_M_light_18 rfl h (fun h => ?_) (fun h => ?_)
      · refine j_iconst (v := (-1)) X jd_M_light_21 (by decide) ?_
        exact j_iret X rfl jd_M_light_22 h
      · exact k_M_light_23 hF hn X h
-- PleasureGardenModel.burns(I)I
theorem jd_M_burns_0 : decode jb_M_burns 0 = .ok (.aload_n 0, 1) := by decide +kernel
theorem jd_M_burns_1 : decode jb_M_burns 1 = .ok (.iload_n 1, 1) := by decide +kernel
theorem jd_M_burns_2 : decode jb_M_burns 2 = .ok (.invokevirtual 235, 3) := by decide +kernel
theorem jd_M_burns_5 : decode jb_M_burns 5 = .ok (.ifCond .ne 7, 3) := by decide +kernel
theorem jd_M_burns_8 : decode jb_M_burns 8 = .ok (.iconst (-1), 1) := by decide +kernel
theorem jd_M_burns_9 : decode jb_M_burns 9 = .ok (.goto 38, 3) := by decide +kernel
theorem jd_M_burns_12 : decode jb_M_burns 12 = .ok (.aload_n 0, 1) := by decide +kernel
theorem jd_M_burns_13 : decode jb_M_burns 13 = .ok (.getfield 250, 3) := by decide +kernel
theorem jd_M_burns_16 : decode jb_M_burns 16 = .ok (.ifCond .eq 29, 3) := by decide +kernel
theorem jd_M_burns_19 : decode jb_M_burns 19 = .ok (.aload_n 0, 1) := by decide +kernel
theorem jd_M_burns_20 : decode jb_M_burns 20 = .ok (.getfield 82, 3) := by decide +kernel
theorem jd_M_burns_23 : decode jb_M_burns 23 = .ok (.iload_n 1, 1) := by decide +kernel
theorem jd_M_burns_24 : decode jb_M_burns 24 = .ok (.iaload, 1) := by decide +kernel
theorem jd_M_burns_25 : decode jb_M_burns 25 = .ok (.ldc 166, 2) := by decide +kernel
theorem jd_M_burns_27 : decode jb_M_burns 27 = .ok (.if_icmp .ge 18, 3) := by decide +kernel
theorem jd_M_burns_30 : decode jb_M_burns 30 = .ok (.aload_n 0, 1) := by decide +kernel
theorem jd_M_burns_31 : decode jb_M_burns 31 = .ok (.getfield 82, 3) := by decide +kernel
theorem jd_M_burns_34 : decode jb_M_burns 34 = .ok (.iload_n 1, 1) := by decide +kernel
theorem jd_M_burns_35 : decode jb_M_burns 35 = .ok (.iaload, 1) := by decide +kernel
theorem jd_M_burns_36 : decode jb_M_burns 36 = .ok (.bipush 9, 2) := by decide +kernel
theorem jd_M_burns_38 : decode jb_M_burns 38 = .ok (.iadd, 1) := by decide +kernel
theorem jd_M_burns_39 : decode jb_M_burns 39 = .ok (.bipush 10, 2) := by decide +kernel
theorem jd_M_burns_41 : decode jb_M_burns 41 = .ok (.idiv, 1) := by decide +kernel
theorem jd_M_burns_42 : decode jb_M_burns 42 = .ok (.goto 5, 3) := by decide +kernel
theorem jd_M_burns_45 : decode jb_M_burns 45 = .ok (.bipush (-2), 2) := by decide +kernel
theorem jd_M_burns_47 : decode jb_M_burns 47 = .ok (.ireturn, 1) := by decide +kernel
def f_M_burns (F : Nat) (x1 : Int32) (I : j_M) : Option (Int32 × j_M) := j_bd (f_M_isLamp F x1 I) (fun v1 I2 => (if v1 = 0 then some ((-1), I2) else (if (I2 215 36) = 0 then some ((-2), I2) else (if j_ok x1 40 = true then (if 1000000 ≤ (I2 239 (j_ix x1)) then some ((-2), I2) else (if j_ok x1 40 = true then (if 10 = 0 then none else some (((I2 239 (j_ix x1)) + 9) / 10, I2)) else none)) else none))))
set_option maxRecDepth 100000 in
set_option maxHeartbeats 4000000 in
theorem k_M_burns {l : Launch} {g : j_G} {b n : Nat} {P : j_R} {F : Nat} (hF : j_Fx 0 260 P) (hn : 260 ≤ n) {x1 : Int32} {I : j_M} {r : Int32 × j_M}  (h : f_M_burns F x1 I = some r) : j_Met l g b n P 2 jy_M_burns jb_M_burns 2 (some .int) [.ref (b + 215), .int x1] I r.2 (some (.int r.1)) := by
  unfold f_M_burns at h
  refine j_enter (plainFor_of_name (by decide)) (Nat.le_of_ble_eq_true rfl) [some (.ref (b + 215)), some (.int x1)] rfl ?_
  intro p e R s m args below meth c X0 hnm hRc hRs
  have X : j_X p R s m args meth c g b 2 jb_M_burns 2 "PleasureGardenModel" (some .int) := X0
  clear X0
  refine j_aload_n X jd_M_burns_0 rfl rfl ?_
  refine j_iload_n X jd_M_burns_1 rfl rfl ?_
  refine j_callVi (As := [.int x1]) (st := []) (c0 := 215) X h jc_M js_215 (j_lt rfl hn) ⟨jqc_M_isLamp, jqi_M_isLamp, jqv_M_isLamp, jqn_M⟩ jlm_M_235 jh_M_isLamp rfl (by decide) (by decide) (Nat.le_of_ble_eq_true rfl) ⟨Nat.zero_le _, Nat.zero_le _⟩ (fun v0 I0 h => k_M_isLamp (r := (v0, I0)) hF hn h) jd_M_burns_2 rfl (fun v1 I2 h => ?_)
  refine j_if_ne (tgt := 12) X jd_M_burns_5 rfl h (fun h => ?_) (fun h => ?_)
  · refine j_iconst (v := (-1)) X jd_M_burns_8 (by decide) ?_
    refine j_goto (tgt := 47) X jd_M_burns_9 rfl ?_
    exact j_iret X rfl jd_M_burns_47 h
  · refine j_aload_n X jd_M_burns_12 rfl rfl ?_
    refine j_get X jf_M_250 jk_12_36 js_215 (j_lt rfl hn) jd_M_burns_13 ?_
    refine j_if_eq (tgt := 45) X jd_M_burns_16 rfl h (fun h => ?_) (fun h => ?_)
    · refine j_bipush (v := (-2)) X jd_M_burns_45 (by decide) ?_
      exact j_iret X rfl jd_M_burns_47 h
    · refine j_aload_n X jd_M_burns_19 rfl rfl ?_
      refine j_getr X jf_M_82 jk_12_35 js_215 (j_lt rfl hn) (jp_215_35 hF) jd_M_burns_20 ?_
      refine j_iload_n X jd_M_burns_23 rfl rfl ?_
      refine j_iald X js_239 (j_lt rfl hn) jd_M_burns_24 h (fun _ h => ?_)
      refine j_ldc (v := 1000000) X jlc_M_166 jd_M_burns_25 ?_
      refine j_icmp_ge (tgt := 45) X jd_M_burns_27 rfl h (fun h => ?_) (fun h => ?_)
      · refine j_bipush (v := (-2)) X jd_M_burns_45 (by decide) ?_
        exact j_iret X rfl jd_M_burns_47 h
      · refine j_aload_n X jd_M_burns_30 rfl rfl ?_
        refine j_getr X jf_M_82 jk_12_35 js_215 (j_lt rfl hn) (jp_215_35 hF) jd_M_burns_31 ?_
        refine j_iload_n X jd_M_burns_34 rfl rfl ?_
        refine j_iald X js_239 (j_lt rfl hn) jd_M_burns_35 h (fun _ h => ?_)
        refine j_bipush (v := 9) X jd_M_burns_36 (by decide) ?_
        refine j_iadd X jd_M_burns_38 ?_
        refine j_bipush (v := 10) X jd_M_burns_39 (by decide) ?_
        refine j_idiv X jd_M_burns_41 h (fun h => ?_)
        refine j_goto (tgt := 47) X jd_M_burns_42 rfl ?_
        exact j_iret X rfl jd_M_burns_47 h
-- PleasureGardenModel.box(II)I
theorem jd_M_box_0 : decode jb_M_box 0 = .ok (.aload_n 0, 1) := by decide +kernel
theorem jd_M_box_1 : decode jb_M_box 1 = .ok (.iload_n 1, 1) := by decide +kernel
theorem jd_M_box_2 : decode jb_M_box 2 = .ok (.invokevirtual 162, 3) := by decide +kernel
theorem jd_M_box_5 : decode jb_M_box 5 = .ok (.ifCond .eq 13, 3) := by decide +kernel
theorem jd_M_box_8 : decode jb_M_box 8 = .ok (.iload_n 2, 1) := by decide +kernel
theorem jd_M_box_9 : decode jb_M_box 9 = .ok (.iconst 1, 1) := by decide +kernel
theorem jd_M_box_10 : decode jb_M_box 10 = .ok (.bipush 20, 2) := by decide +kernel
theorem jd_M_box_12 : decode jb_M_box 12 = .ok (.invokestatic 158, 3) := by decide +kernel
theorem jd_M_box_15 : decode jb_M_box 15 = .ok (.ifCond .ne 5, 3) := by decide +kernel
theorem jd_M_box_18 : decode jb_M_box 18 = .ok (.iconst (-1), 1) := by decide +kernel
theorem jd_M_box_19 : decode jb_M_box 19 = .ok (.ireturn, 1) := by decide +kernel
theorem jd_M_box_20 : decode jb_M_box 20 = .ok (.aload_n 0, 1) := by decide +kernel
theorem jd_M_box_21 : decode jb_M_box 21 = .ok (.getfield 257, 3) := by decide +kernel
theorem jd_M_box_24 : decode jb_M_box 24 = .ok (.bipush 20, 2) := by decide +kernel
theorem jd_M_box_26 : decode jb_M_box 26 = .ok (.if_icmp .ne 6, 3) := by decide +kernel
theorem jd_M_box_29 : decode jb_M_box 29 = .ok (.bipush (-3), 2) := by decide +kernel
theorem jd_M_box_31 : decode jb_M_box 31 = .ok (.ireturn, 1) := by decide +kernel
theorem jd_M_box_32 : decode jb_M_box 32 = .ok (.aload_n 0, 1) := by decide +kernel
theorem jd_M_box_33 : decode jb_M_box 33 = .ok (.getfield 85, 3) := by decide +kernel
theorem jd_M_box_36 : decode jb_M_box 36 = .ok (.aload_n 0, 1) := by decide +kernel
theorem jd_M_box_37 : decode jb_M_box 37 = .ok (.getfield 257, 3) := by decide +kernel
theorem jd_M_box_40 : decode jb_M_box 40 = .ok (.iload_n 1, 1) := by decide +kernel
theorem jd_M_box_41 : decode jb_M_box 41 = .ok (.iastore, 1) := by decide +kernel
theorem jd_M_box_42 : decode jb_M_box 42 = .ok (.aload_n 0, 1) := by decide +kernel
theorem jd_M_box_43 : decode jb_M_box 43 = .ok (.getfield 88, 3) := by decide +kernel
theorem jd_M_box_46 : decode jb_M_box 46 = .ok (.aload_n 0, 1) := by decide +kernel
theorem jd_M_box_47 : decode jb_M_box 47 = .ok (.getfield 257, 3) := by decide +kernel
theorem jd_M_box_50 : decode jb_M_box 50 = .ok (.iload_n 2, 1) := by decide +kernel
theorem jd_M_box_51 : decode jb_M_box 51 = .ok (.iastore, 1) := by decide +kernel
theorem jd_M_box_52 : decode jb_M_box 52 = .ok (.aload_n 0, 1) := by decide +kernel
theorem jd_M_box_53 : decode jb_M_box 53 = .ok (.dup, 1) := by decide +kernel
theorem jd_M_box_54 : decode jb_M_box 54 = .ok (.getfield 257, 3) := by decide +kernel
theorem jd_M_box_57 : decode jb_M_box 57 = .ok (.iconst 1, 1) := by decide +kernel
theorem jd_M_box_58 : decode jb_M_box 58 = .ok (.iadd, 1) := by decide +kernel
theorem jd_M_box_59 : decode jb_M_box 59 = .ok (.putfield 257, 3) := by decide +kernel
theorem jd_M_box_62 : decode jb_M_box 62 = .ok (.aload_n 0, 1) := by decide +kernel
theorem jd_M_box_63 : decode jb_M_box 63 = .ok (.getfield 257, 3) := by decide +kernel
theorem jd_M_box_66 : decode jb_M_box 66 = .ok (.iconst 1, 1) := by decide +kernel
theorem jd_M_box_67 : decode jb_M_box 67 = .ok (.isub, 1) := by decide +kernel
theorem jd_M_box_68 : decode jb_M_box 68 = .ok (.ireturn, 1) := by decide +kernel
def f_M_box (F : Nat) (x1 : Int32) (x2 : Int32) (I : j_M) : Option (Int32 × j_M) := j_bd (f_M_isPlace F x1 I) (fun v1 I2 => (if v1 = 0 then some ((-1), I2) else j_bd (f_M_among F x2 1 20 I2) (fun v3 I4 => (if v3 = 0 then some ((-1), I4) else (if (I4 215 40) = 20 then some ((-3), I4) else (if j_ok (I4 215 40) 20 = true then j_let (j_wr I4 240 (j_ix (I4 215 40)) x1) (fun I5 => (if j_ok (I5 215 40) 20 = true then j_let (j_wr I5 241 (j_ix (I5 215 40)) x2) (fun I6 => j_let (j_wr I6 215 40 ((I6 215 40) + 1)) (fun I7 => some ((I7 215 40) - 1, I7))) else none)) else none))))))
set_option maxRecDepth 100000 in
set_option maxHeartbeats 4000000 in
theorem k_M_box {l : Launch} {g : j_G} {b n : Nat} {P : j_R} {F : Nat} (hF : j_Fx 0 260 P) (hn : 260 ≤ n) {x1 : Int32} {x2 : Int32} {I : j_M} {r : Int32 × j_M}  (h : f_M_box F x1 x2 I = some r) : j_Met l g b n P 2 jy_M_box jb_M_box 3 (some .int) [.ref (b + 215), .int x1, .int x2] I r.2 (some (.int r.1)) := by
  unfold f_M_box at h
  refine j_enter (plainFor_of_name (by decide)) (Nat.le_of_ble_eq_true rfl) [some (.ref (b + 215)), some (.int x1), some (.int x2)] rfl ?_
  intro p e R s m args below meth c X0 hnm hRc hRs
  have X : j_X p R s m args meth c g b 2 jb_M_box 3 "PleasureGardenModel" (some .int) := X0
  clear X0
  refine j_aload_n X jd_M_box_0 rfl rfl ?_
  refine j_iload_n X jd_M_box_1 rfl rfl ?_
  refine j_callVi (As := [.int x1]) (st := []) (c0 := 215) X h jc_M js_215 (j_lt rfl hn) ⟨jqc_M_isPlace, jqi_M_isPlace, jqv_M_isPlace, jqn_M⟩ jlm_M_162 jh_M_isPlace rfl (by decide) (by decide) (Nat.le_of_ble_eq_true rfl) ⟨Nat.zero_le _, Nat.zero_le _⟩ (fun v0 I0 h => k_M_isPlace (r := (v0, I0)) hF hn h) jd_M_box_2 rfl (fun v1 I2 h => ?_)
  refine j_if_eq (tgt := 18) X jd_M_box_5 rfl h (fun h => ?_) (fun h => ?_)
  · refine j_iconst (v := (-1)) X jd_M_box_18 (by decide) ?_
    exact j_iret X rfl jd_M_box_19 h
  · refine j_iload_n X jd_M_box_8 rfl rfl ?_
    refine j_iconst (v := 1) X jd_M_box_9 (by decide) ?_
    refine j_bipush (v := 20) X jd_M_box_10 (by decide) ?_
    refine j_callSi (As := [.int x2, .int 1, .int 20]) (st := []) X h ⟨jqc_M_among, jqs_M_among, jqn_M⟩ jlm_M_158 jh_M_among.2 rfl (by decide) (by decide) (Nat.le_of_ble_eq_true rfl) ⟨Nat.zero_le _, Nat.zero_le _⟩ (fun v0 I0 h => k_M_among (r := (v0, I0)) hF hn h) jd_M_box_12 rfl (fun v3 I4 h => ?_)
    refine j_if_ne (tgt := 20) X jd_M_box_15 rfl h (fun h => ?_) (fun h => ?_)
    · refine j_iconst (v := (-1)) X jd_M_box_18 (by decide) ?_
      exact j_iret X rfl jd_M_box_19 h
    · refine j_aload_n X jd_M_box_20 rfl rfl ?_
      refine j_get X jf_M_257 jk_12_40 js_215 (j_lt rfl hn) jd_M_box_21 ?_
      refine j_bipush (v := 20) X jd_M_box_24 (by decide) ?_
      refine j_icmp_ne (tgt := 32) X jd_M_box_26 rfl h (fun h => ?_) (fun h => ?_)
      · refine j_bipush (v := (-3)) X jd_M_box_29 (by decide) ?_
        exact j_iret X rfl jd_M_box_31 h
      · refine j_aload_n X jd_M_box_32 rfl rfl ?_
        refine j_getr X jf_M_85 jk_12_41 js_215 (j_lt rfl hn) (jp_215_41 hF) jd_M_box_33 ?_
        refine j_aload_n X jd_M_box_36 rfl rfl ?_
        refine j_get X jf_M_257 jk_12_40 js_215 (j_lt rfl hn) jd_M_box_37 ?_
        refine j_iload_n X jd_M_box_40 rfl rfl ?_
        refine j_iast X js_240 (j_lt rfl hn) jd_M_box_41 h (fun h => ?_)
        refine j_mem h (fun I5 h => ?_)
        refine j_aload_n X jd_M_box_42 rfl rfl ?_
        refine j_getr X jf_M_88 jk_12_42 js_215 (j_lt rfl hn) (jp_215_42 hF) jd_M_box_43 ?_
        refine j_aload_n X jd_M_box_46 rfl rfl ?_
        refine j_get X jf_M_257 jk_12_40 js_215 (j_lt rfl hn) jd_M_box_47 ?_
        refine j_iload_n X jd_M_box_50 rfl rfl ?_
        refine j_iast X js_241 (j_lt rfl hn) jd_M_box_51 h (fun h => ?_)
        refine j_mem h (fun I6 h => ?_)
        refine j_aload_n X jd_M_box_52 rfl rfl ?_
        refine j_dup X jd_M_box_53 rfl ?_
        refine j_get X jf_M_257 jk_12_40 js_215 (j_lt rfl hn) jd_M_box_54 ?_
        refine j_iconst (v := 1) X jd_M_box_57 (by decide) ?_
        refine j_iadd X jd_M_box_58 ?_
        refine j_puti X jt_M jto_M jn_M jf_M_257 jk_12_40 js_215 (j_lt rfl hn) (Or.inl rfl) rfl jd_M_box_59 ?_
        refine j_mem h (fun I7 h => ?_)
        refine j_aload_n X jd_M_box_62 rfl rfl ?_
        refine j_get X jf_M_257 jk_12_40 js_215 (j_lt rfl hn) jd_M_box_63 ?_
        refine j_iconst (v := 1) X jd_M_box_66 (by decide) ?_
        refine j_isub X jd_M_box_67 ?_
        exact j_iret X rfl jd_M_box_68 h
-- PleasureGardenModel.let(II)I
theorem jd_M_let_0 : decode jb_M_let 0 = .ok (.aload_n 0, 1) := by decide +kernel
theorem jd_M_let_1 : decode jb_M_let 1 = .ok (.iload_n 1, 1) := by decide +kernel
theorem jd_M_let_2 : decode jb_M_let 2 = .ok (.invokevirtual 260, 3) := by decide +kernel
theorem jd_M_let_5 : decode jb_M_let 5 = .ok (.ifCond .eq 11, 3) := by decide +kernel
theorem jd_M_let_8 : decode jb_M_let 8 = .ok (.aload_n 0, 1) := by decide +kernel
theorem jd_M_let_9 : decode jb_M_let 9 = .ok (.iload_n 2, 1) := by decide +kernel
theorem jd_M_let_10 : decode jb_M_let 10 = .ok (.invokevirtual 206, 3) := by decide +kernel
theorem jd_M_let_13 : decode jb_M_let 13 = .ok (.ifCond .ne 5, 3) := by decide +kernel
theorem jd_M_let_16 : decode jb_M_let 16 = .ok (.iconst (-1), 1) := by decide +kernel
theorem jd_M_let_17 : decode jb_M_let 17 = .ok (.ireturn, 1) := by decide +kernel
theorem jd_M_let_18 : decode jb_M_let 18 = .ok (.aload_n 0, 1) := by decide +kernel
theorem jd_M_let_19 : decode jb_M_let 19 = .ok (.iload_n 1, 1) := by decide +kernel
theorem jd_M_let_20 : decode jb_M_let 20 = .ok (.invokevirtual 263, 3) := by decide +kernel
theorem jd_M_let_23 : decode jb_M_let 23 = .ok (.ifCond .ge 51, 3) := by decide +kernel
theorem jd_M_let_26 : decode jb_M_let 26 = .ok (.aload_n 0, 1) := by decide +kernel
theorem jd_M_let_27 : decode jb_M_let 27 = .ok (.getfield 38, 3) := by decide +kernel
theorem jd_M_let_30 : decode jb_M_let 30 = .ok (.iload_n 2, 1) := by decide +kernel
theorem jd_M_let_31 : decode jb_M_let 31 = .ok (.iaload, 1) := by decide +kernel
theorem jd_M_let_32 : decode jb_M_let 32 = .ok (.ifCond .ne 42, 3) := by decide +kernel
theorem jd_M_let_35 : decode jb_M_let 35 = .ok (.aload_n 0, 1) := by decide +kernel
theorem jd_M_let_36 : decode jb_M_let 36 = .ok (.getfield 41, 3) := by decide +kernel
theorem jd_M_let_39 : decode jb_M_let 39 = .ok (.iload_n 2, 1) := by decide +kernel
theorem jd_M_let_40 : decode jb_M_let 40 = .ok (.iaload, 1) := by decide +kernel
theorem jd_M_let_41 : decode jb_M_let 41 = .ok (.aload_n 0, 1) := by decide +kernel
theorem jd_M_let_42 : decode jb_M_let 42 = .ok (.getfield 85, 3) := by decide +kernel
theorem jd_M_let_45 : decode jb_M_let 45 = .ok (.iload_n 1, 1) := by decide +kernel
theorem jd_M_let_46 : decode jb_M_let 46 = .ok (.iaload, 1) := by decide +kernel
theorem jd_M_let_47 : decode jb_M_let 47 = .ok (.if_icmp .ne 27, 3) := by decide +kernel
theorem jd_M_let_50 : decode jb_M_let 50 = .ok (.aload_n 0, 1) := by decide +kernel
theorem jd_M_let_51 : decode jb_M_let 51 = .ok (.getfield 47, 3) := by decide +kernel
theorem jd_M_let_54 : decode jb_M_let 54 = .ok (.iload_n 2, 1) := by decide +kernel
theorem jd_M_let_55 : decode jb_M_let 55 = .ok (.iaload, 1) := by decide +kernel
theorem jd_M_let_56 : decode jb_M_let 56 = .ok (.ifCond .ge 18, 3) := by decide +kernel
theorem jd_M_let_59 : decode jb_M_let 59 = .ok (.aload_n 0, 1) := by decide +kernel
theorem jd_M_let_60 : decode jb_M_let 60 = .ok (.getfield 32, 3) := by decide +kernel
theorem jd_M_let_63 : decode jb_M_let 63 = .ok (.iload_n 2, 1) := by decide +kernel
theorem jd_M_let_64 : decode jb_M_let 64 = .ok (.iaload, 1) := by decide +kernel
theorem jd_M_let_65 : decode jb_M_let 65 = .ok (.aload_n 0, 1) := by decide +kernel
theorem jd_M_let_66 : decode jb_M_let 66 = .ok (.getfield 88, 3) := by decide +kernel
theorem jd_M_let_69 : decode jb_M_let 69 = .ok (.iload_n 1, 1) := by decide +kernel
theorem jd_M_let_70 : decode jb_M_let 70 = .ok (.iaload, 1) := by decide +kernel
theorem jd_M_let_71 : decode jb_M_let 71 = .ok (.if_icmp .le 6, 3) := by decide +kernel
theorem jd_M_let_74 : decode jb_M_let 74 = .ok (.bipush (-2), 2) := by decide +kernel
theorem jd_M_let_76 : decode jb_M_let 76 = .ok (.ireturn, 1) := by decide +kernel
theorem jd_M_let_77 : decode jb_M_let 77 = .ok (.aload_n 0, 1) := by decide +kernel
theorem jd_M_let_78 : decode jb_M_let 78 = .ok (.getfield 47, 3) := by decide +kernel
theorem jd_M_let_81 : decode jb_M_let 81 = .ok (.iload_n 2, 1) := by decide +kernel
theorem jd_M_let_82 : decode jb_M_let 82 = .ok (.iload_n 1, 1) := by decide +kernel
theorem jd_M_let_83 : decode jb_M_let 83 = .ok (.iastore, 1) := by decide +kernel
theorem jd_M_let_84 : decode jb_M_let 84 = .ok (.iconst 1, 1) := by decide +kernel
theorem jd_M_let_85 : decode jb_M_let 85 = .ok (.ireturn, 1) := by decide +kernel
def f_M_let (F : Nat) (x1 : Int32) (x2 : Int32) (I : j_M) : Option (Int32 × j_M) := j_bd (f_M_isBox F x1 I) (fun v1 I2 => (if v1 = 0 then some ((-1), I2) else j_bd (f_M_isParty F x2 I2) (fun v3 I4 => (if v3 = 0 then some ((-1), I4) else j_bd (f_M_whoIn F x1 I4) (fun v5 I6 => (if 0 ≤ v5 then some ((-2), I6) else (if j_ok x2 100 = true then (if (I6 225 (j_ix x2)) = 0 then (if j_ok x2 100 = true then (if j_ok x1 20 = true then (if (I6 226 (j_ix x2)) = (I6 240 (j_ix x1)) then (if j_ok x2 100 = true then (if 0 ≤ (I6 228 (j_ix x2)) then some ((-2), I6) else (if j_ok x2 100 = true then (if j_ok x1 20 = true then (if (I6 223 (j_ix x2)) ≤ (I6 241 (j_ix x1)) then (if j_ok x2 100 = true then j_let (j_wr I6 228 (j_ix x2) x1) (fun I7 => some (1, I7)) else none) else some ((-2), I6)) else none) else none)) else none) else some ((-2), I6)) else none) else none) else some ((-2), I6)) else none)))))))
set_option maxRecDepth 100000 in
set_option maxHeartbeats 4000000 in
theorem k_M_let {l : Launch} {g : j_G} {b n : Nat} {P : j_R} {F : Nat} (hF : j_Fx 0 260 P) (hn : 260 ≤ n) {x1 : Int32} {x2 : Int32} {I : j_M} {r : Int32 × j_M}  (h : f_M_let F x1 x2 I = some r) : j_Met l g b n P 2 jy_M_let jb_M_let 3 (some .int) [.ref (b + 215), .int x1, .int x2] I r.2 (some (.int r.1)) := by
  unfold f_M_let at h
  refine j_enter (plainFor_of_name (by decide)) (Nat.le_of_ble_eq_true rfl) [some (.ref (b + 215)), some (.int x1), some (.int x2)] rfl ?_
  intro p e R s m args below meth c X0 hnm hRc hRs
  have X : j_X p R s m args meth c g b 2 jb_M_let 3 "PleasureGardenModel" (some .int) := X0
  clear X0
  refine j_aload_n X jd_M_let_0 rfl rfl ?_
  refine j_iload_n X jd_M_let_1 rfl rfl ?_
  refine j_callVi (As := [.int x1]) (st := []) (c0 := 215) X h jc_M js_215 (j_lt rfl hn) ⟨jqc_M_isBox, jqi_M_isBox, jqv_M_isBox, jqn_M⟩ jlm_M_260 jh_M_isBox rfl (by decide) (by decide) (Nat.le_of_ble_eq_true rfl) ⟨Nat.zero_le _, Nat.zero_le _⟩ (fun v0 I0 h => k_M_isBox (r := (v0, I0)) hF hn h) jd_M_let_2 rfl (fun v1 I2 h => ?_)
  refine j_if_eq (tgt := 16) X jd_M_let_5 rfl h (fun h => ?_) (fun h => ?_)
  · refine j_iconst (v := (-1)) X jd_M_let_16 (by decide) ?_
    exact j_iret X rfl jd_M_let_17 h
  · refine j_aload_n X jd_M_let_8 rfl rfl ?_
    refine j_iload_n X jd_M_let_9 rfl rfl ?_
    refine j_callVi (As := [.int x2]) (st := []) (c0 := 215) X h jc_M js_215 (j_lt rfl hn) ⟨jqc_M_isParty, jqi_M_isParty, jqv_M_isParty, jqn_M⟩ jlm_M_206 jh_M_isParty rfl (by decide) (by decide) (Nat.le_of_ble_eq_true rfl) ⟨Nat.zero_le _, Nat.zero_le _⟩ (fun v0 I0 h => k_M_isParty (r := (v0, I0)) hF hn h) jd_M_let_10 rfl (fun v3 I4 h => ?_)
    refine j_if_ne (tgt := 18) X jd_M_let_13 rfl h (fun h => ?_) (fun h => ?_)
    · refine j_iconst (v := (-1)) X jd_M_let_16 (by decide) ?_
      exact j_iret X rfl jd_M_let_17 h
    · refine j_aload_n X jd_M_let_18 rfl rfl ?_
      refine j_iload_n X jd_M_let_19 rfl rfl ?_
      refine j_callVi (As := [.int x1]) (st := []) (c0 := 215) X h jc_M js_215 (j_lt rfl hn) ⟨jqc_M_whoIn, jqi_M_whoIn, jqv_M_whoIn, jqn_M⟩ jlm_M_263 jh_M_whoIn rfl (by decide) (by decide) (Nat.le_of_ble_eq_true rfl) ⟨Nat.zero_le _, Nat.zero_le _⟩ (fun v0 I0 h => k_M_whoIn (r := (v0, I0)) hF hn h) jd_M_let_20 rfl (fun v5 I6 h => ?_)
      refine j_if_ge (tgt := 74) X jd_M_let_23 rfl h (fun h => ?_) (fun h => ?_)
      · refine j_bipush (v := (-2)) X jd_M_let_74 (by decide) ?_
        exact j_iret X rfl jd_M_let_76 h
      · refine j_aload_n X jd_M_let_26 rfl rfl ?_
        refine j_getr X jf_M_38 jk_12_15 js_215 (j_lt rfl hn) (jp_215_15 hF) jd_M_let_27 ?_
        refine j_iload_n X jd_M_let_30 rfl rfl ?_
        refine j_iald X js_225 (j_lt rfl hn) jd_M_let_31 h (fun _ h => ?_)
        refine j_if_ne (tgt := 74) X jd_M_let_32 rfl h (fun h => ?_) (fun h => ?_)
        · refine j_aload_n X jd_M_let_35 rfl rfl ?_
          refine j_getr X jf_M_41 jk_12_16 js_215 (j_lt rfl hn) (jp_215_16 hF) jd_M_let_36 ?_
          refine j_iload_n X jd_M_let_39 rfl rfl ?_
          refine j_iald X js_226 (j_lt rfl hn) jd_M_let_40 h (fun _ h => ?_)
          refine j_aload_n X jd_M_let_41 rfl rfl ?_
          refine j_getr X jf_M_85 jk_12_41 js_215 (j_lt rfl hn) (jp_215_41 hF) jd_M_let_42 ?_
          refine j_iload_n X jd_M_let_45 rfl rfl ?_
          refine j_iald X js_240 (j_lt rfl hn) jd_M_let_46 h (fun _ h => ?_)
          refine j_icmp_ne (tgt := 74) X jd_M_let_47 rfl h (fun h => ?_) (fun h => ?_)
          · refine j_aload_n X jd_M_let_50 rfl rfl ?_
            refine j_getr X jf_M_47 jk_12_18 js_215 (j_lt rfl hn) (jp_215_18 hF) jd_M_let_51 ?_
            refine j_iload_n X jd_M_let_54 rfl rfl ?_
            refine j_iald X js_228 (j_lt rfl hn) jd_M_let_55 h (fun _ h => ?_)
            refine j_if_ge (tgt := 74) X jd_M_let_56 rfl h (fun h => ?_) (fun h => ?_)
            · refine j_bipush (v := (-2)) X jd_M_let_74 (by decide) ?_
              exact j_iret X rfl jd_M_let_76 h
            · refine j_aload_n X jd_M_let_59 rfl rfl ?_
              refine j_getr X jf_M_32 jk_12_13 js_215 (j_lt rfl hn) (jp_215_13 hF) jd_M_let_60 ?_
              refine j_iload_n X jd_M_let_63 rfl rfl ?_
              refine j_iald X js_223 (j_lt rfl hn) jd_M_let_64 h (fun _ h => ?_)
              refine j_aload_n X jd_M_let_65 rfl rfl ?_
              refine j_getr X jf_M_88 jk_12_42 js_215 (j_lt rfl hn) (jp_215_42 hF) jd_M_let_66 ?_
              refine j_iload_n X jd_M_let_69 rfl rfl ?_
              refine j_iald X js_241 (j_lt rfl hn) jd_M_let_70 h (fun _ h => ?_)
              refine j_icmp_le (tgt := 77) X jd_M_let_71 rfl h (fun h => ?_) (fun h => ?_)
              · refine j_aload_n X jd_M_let_77 rfl rfl ?_
                refine j_getr X jf_M_47 jk_12_18 js_215 (j_lt rfl hn) (jp_215_18 hF) jd_M_let_78 ?_
                refine j_iload_n X jd_M_let_81 rfl rfl ?_
                refine j_iload_n X jd_M_let_82 rfl rfl ?_
                refine j_iast X js_228 (j_lt rfl hn) jd_M_let_83 h (fun h => ?_)
                refine j_mem h (fun I7 h => ?_)
                refine j_iconst (v := 1) X jd_M_let_84 (by decide) ?_
                exact j_iret X rfl jd_M_let_85 h
              · refine j_bipush (v := (-2)) X jd_M_let_74 (by decide) ?_
                exact j_iret X rfl jd_M_let_76 h
          · refine j_bipush (v := (-2)) X jd_M_let_74 (by decide) ?_
            exact j_iret X rfl jd_M_let_76 h
        · refine j_bipush (v := (-2)) X jd_M_let_74 (by decide) ?_
          exact j_iret X rfl jd_M_let_76 h
-- PleasureGardenModel.rise(I)I
theorem jd_M_rise_0 : decode jb_M_rise 0 = .ok (.aload_n 0, 1) := by decide +kernel
theorem jd_M_rise_1 : decode jb_M_rise 1 = .ok (.iload_n 1, 1) := by decide +kernel
theorem jd_M_rise_2 : decode jb_M_rise 2 = .ok (.invokevirtual 206, 3) := by decide +kernel
theorem jd_M_rise_5 : decode jb_M_rise 5 = .ok (.ifCond .ne 5, 3) := by decide +kernel
theorem jd_M_rise_8 : decode jb_M_rise 8 = .ok (.iconst (-1), 1) := by decide +kernel
theorem jd_M_rise_9 : decode jb_M_rise 9 = .ok (.ireturn, 1) := by decide +kernel
theorem jd_M_rise_10 : decode jb_M_rise 10 = .ok (.aload_n 0, 1) := by decide +kernel
theorem jd_M_rise_11 : decode jb_M_rise 11 = .ok (.getfield 47, 3) := by decide +kernel
theorem jd_M_rise_14 : decode jb_M_rise 14 = .ok (.iload_n 1, 1) := by decide +kernel
theorem jd_M_rise_15 : decode jb_M_rise 15 = .ok (.iaload, 1) := by decide +kernel
theorem jd_M_rise_16 : decode jb_M_rise 16 = .ok (.ifCond .ge 6, 3) := by decide +kernel
theorem jd_M_rise_19 : decode jb_M_rise 19 = .ok (.bipush (-2), 2) := by decide +kernel
theorem jd_M_rise_21 : decode jb_M_rise 21 = .ok (.ireturn, 1) := by decide +kernel
theorem jd_M_rise_22 : decode jb_M_rise 22 = .ok (.aload_n 0, 1) := by decide +kernel
theorem jd_M_rise_23 : decode jb_M_rise 23 = .ok (.getfield 47, 3) := by decide +kernel
theorem jd_M_rise_26 : decode jb_M_rise 26 = .ok (.iload_n 1, 1) := by decide +kernel
theorem jd_M_rise_27 : decode jb_M_rise 27 = .ok (.iaload, 1) := by decide +kernel
theorem jd_M_rise_28 : decode jb_M_rise 28 = .ok (.istore_n 2, 1) := by decide +kernel
theorem jd_M_rise_29 : decode jb_M_rise 29 = .ok (.aload_n 0, 1) := by decide +kernel
theorem jd_M_rise_30 : decode jb_M_rise 30 = .ok (.iload_n 1, 1) := by decide +kernel
theorem jd_M_rise_31 : decode jb_M_rise 31 = .ok (.invokevirtual 203, 3) := by decide +kernel
theorem jd_M_rise_34 : decode jb_M_rise 34 = .ok (.iload_n 2, 1) := by decide +kernel
theorem jd_M_rise_35 : decode jb_M_rise 35 = .ok (.ireturn, 1) := by decide +kernel
def f_M_rise (F : Nat) (x1 : Int32) (I : j_M) : Option (Int32 × j_M) := j_bd (f_M_isParty F x1 I) (fun v1 I2 => (if v1 = 0 then some ((-1), I2) else (if j_ok x1 100 = true then (if 0 ≤ (I2 228 (j_ix x1)) then (if j_ok x1 100 = true then j_let (I2 228 (j_ix x1)) (fun v3 => j_bd (f_M_getsUp F x1 I2) (fun v4 I5 => some (v3, I5))) else none) else some ((-2), I2)) else none)))
set_option maxRecDepth 100000 in
set_option maxHeartbeats 4000000 in
theorem k_M_rise {l : Launch} {g : j_G} {b n : Nat} {P : j_R} {F : Nat} (hF : j_Fx 0 260 P) (hn : 260 ≤ n) {x1 : Int32} {I : j_M} {r : Int32 × j_M}  (h : f_M_rise F x1 I = some r) : j_Met l g b n P 2 jy_M_rise jb_M_rise 3 (some .int) [.ref (b + 215), .int x1] I r.2 (some (.int r.1)) := by
  unfold f_M_rise at h
  refine j_enter (plainFor_of_name (by decide)) (Nat.le_of_ble_eq_true rfl) [some (.ref (b + 215)), some (.int x1), none] rfl ?_
  intro p e R s m args below meth c X0 hnm hRc hRs
  have X : j_X p R s m args meth c g b 2 jb_M_rise 3 "PleasureGardenModel" (some .int) := X0
  clear X0
  refine j_aload_n X jd_M_rise_0 rfl rfl ?_
  refine j_iload_n X jd_M_rise_1 rfl rfl ?_
  refine j_callVi (As := [.int x1]) (st := []) (c0 := 215) X h jc_M js_215 (j_lt rfl hn) ⟨jqc_M_isParty, jqi_M_isParty, jqv_M_isParty, jqn_M⟩ jlm_M_206 jh_M_isParty rfl (by decide) (by decide) (Nat.le_of_ble_eq_true rfl) ⟨Nat.zero_le _, Nat.zero_le _⟩ (fun v0 I0 h => k_M_isParty (r := (v0, I0)) hF hn h) jd_M_rise_2 rfl (fun v1 I2 h => ?_)
  refine j_if_ne (tgt := 10) X jd_M_rise_5 rfl h (fun h => ?_) (fun h => ?_)
  · refine j_iconst (v := (-1)) X jd_M_rise_8 (by decide) ?_
    exact j_iret X rfl jd_M_rise_9 h
  · refine j_aload_n X jd_M_rise_10 rfl rfl ?_
    refine j_getr X jf_M_47 jk_12_18 js_215 (j_lt rfl hn) (jp_215_18 hF) jd_M_rise_11 ?_
    refine j_iload_n X jd_M_rise_14 rfl rfl ?_
    refine j_iald X js_228 (j_lt rfl hn) jd_M_rise_15 h (fun _ h => ?_)
    refine j_if_ge (tgt := 22) X jd_M_rise_16 rfl h (fun h => ?_) (fun h => ?_)
    · refine j_aload_n X jd_M_rise_22 rfl rfl ?_
      refine j_getr X jf_M_47 jk_12_18 js_215 (j_lt rfl hn) (jp_215_18 hF) jd_M_rise_23 ?_
      refine j_iload_n X jd_M_rise_26 rfl rfl ?_
      refine j_iald X js_228 (j_lt rfl hn) jd_M_rise_27 h (fun _ h => ?_)
      refine j_nm h (fun v3 h => ?_)
      refine j_istore_n (lv' := [some (.ref (b + 215)), some (.int x1), some (.int v3)]) X jd_M_rise_28 rfl (by decide) rfl ?_
      refine j_aload_n X jd_M_rise_29 rfl rfl ?_
      refine j_iload_n X jd_M_rise_30 rfl rfl ?_
      refine j_callVv (As := [.int x1]) (st := []) (c0 := 215) X h jc_M js_215 (j_lt rfl hn) ⟨jqc_M_getsUp, jqi_M_getsUp, jqv_M_getsUp, jqn_M⟩ jlm_M_203 jh_M_getsUp rfl (by decide) (by decide) (Nat.le_of_ble_eq_true rfl) ⟨Nat.zero_le _, Nat.zero_le _⟩ (fun v0 I0 h => k_M_getsUp (r := (v0, I0)) hF hn h) jd_M_rise_31 rfl (fun v4 I5 h => ?_)
      refine j_iload_n X jd_M_rise_34 rfl rfl ?_
      exact j_iret X rfl jd_M_rise_35 h
    · refine j_bipush (v := (-2)) X jd_M_rise_19 (by decide) ?_
      exact j_iret X rfl jd_M_rise_21 h
-- PleasureGardenModel.in(I)I
theorem jd_M_in_0 : decode jb_M_in 0 = .ok (.aload_n 0, 1) := by decide +kernel
theorem jd_M_in_1 : decode jb_M_in 1 = .ok (.iload_n 1, 1) := by decide +kernel
theorem jd_M_in_2 : decode jb_M_in 2 = .ok (.invokevirtual 260, 3) := by decide +kernel
theorem jd_M_in_5 : decode jb_M_in 5 = .ok (.ifCond .eq 11, 3) := by decide +kernel
theorem jd_M_in_8 : decode jb_M_in 8 = .ok (.aload_n 0, 1) := by decide +kernel
theorem jd_M_in_9 : decode jb_M_in 9 = .ok (.iload_n 1, 1) := by decide +kernel
theorem jd_M_in_10 : decode jb_M_in 10 = .ok (.invokevirtual 263, 3) := by decide +kernel
theorem jd_M_in_13 : decode jb_M_in 13 = .ok (.goto 4, 3) := by decide +kernel
theorem jd_M_in_16 : decode jb_M_in 16 = .ok (.iconst (-1), 1) := by decide +kernel
theorem jd_M_in_17 : decode jb_M_in 17 = .ok (.ireturn, 1) := by decide +kernel
def f_M_in (F : Nat) (x1 : Int32) (I : j_M) : Option (Int32 × j_M) := j_bd (f_M_isBox F x1 I) (fun v1 I2 => (if v1 = 0 then some ((-1), I2) else j_bd (f_M_whoIn F x1 I2) (fun v3 I4 => some (v3, I4))))
set_option maxRecDepth 100000 in
set_option maxHeartbeats 4000000 in
theorem k_M_in {l : Launch} {g : j_G} {b n : Nat} {P : j_R} {F : Nat} (hF : j_Fx 0 260 P) (hn : 260 ≤ n) {x1 : Int32} {I : j_M} {r : Int32 × j_M}  (h : f_M_in F x1 I = some r) : j_Met l g b n P 2 jy_M_in jb_M_in 2 (some .int) [.ref (b + 215), .int x1] I r.2 (some (.int r.1)) := by
  unfold f_M_in at h
  refine j_enter (plainFor_of_name (by decide)) (Nat.le_of_ble_eq_true rfl) [some (.ref (b + 215)), some (.int x1)] rfl ?_
  intro p e R s m args below meth c X0 hnm hRc hRs
  have X : j_X p R s m args meth c g b 2 jb_M_in 2 "PleasureGardenModel" (some .int) := X0
  clear X0
  refine j_aload_n X jd_M_in_0 rfl rfl ?_
  refine j_iload_n X jd_M_in_1 rfl rfl ?_
  refine j_callVi (As := [.int x1]) (st := []) (c0 := 215) X h jc_M js_215 (j_lt rfl hn) ⟨jqc_M_isBox, jqi_M_isBox, jqv_M_isBox, jqn_M⟩ jlm_M_260 jh_M_isBox rfl (by decide) (by decide) (Nat.le_of_ble_eq_true rfl) ⟨Nat.zero_le _, Nat.zero_le _⟩ (fun v0 I0 h => k_M_isBox (r := (v0, I0)) hF hn h) jd_M_in_2 rfl (fun v1 I2 h => ?_)
  refine j_if_eq (tgt := 16) X jd_M_in_5 rfl h (fun h => ?_) (fun h => ?_)
  · refine j_iconst (v := (-1)) X jd_M_in_16 (by decide) ?_
    exact j_iret X rfl jd_M_in_17 h
  · refine j_aload_n X jd_M_in_8 rfl rfl ?_
    refine j_iload_n X jd_M_in_9 rfl rfl ?_
    refine j_callVi (As := [.int x1]) (st := []) (c0 := 215) X h jc_M js_215 (j_lt rfl hn) ⟨jqc_M_whoIn, jqi_M_whoIn, jqv_M_whoIn, jqn_M⟩ jlm_M_263 jh_M_whoIn rfl (by decide) (by decide) (Nat.le_of_ble_eq_true rfl) ⟨Nat.zero_le _, Nat.zero_le _⟩ (fun v0 I0 h => k_M_whoIn (r := (v0, I0)) hF hn h) jd_M_in_10 rfl (fun v3 I4 h => ?_)
    refine j_goto (tgt := 17) X jd_M_in_13 rfl ?_
    exact j_iret X rfl jd_M_in_17 h
-- PleasureGardenModel.order(II)I
theorem jd_M_order_0 : decode jb_M_order 0 = .ok (.aload_n 0, 1) := by decide +kernel
theorem jd_M_order_1 : decode jb_M_order 1 = .ok (.iload_n 1, 1) := by decide +kernel
theorem jd_M_order_2 : decode jb_M_order 2 = .ok (.invokevirtual 206, 3) := by decide +kernel
theorem jd_M_order_5 : decode jb_M_order 5 = .ok (.ifCond .eq 13, 3) := by decide +kernel
theorem jd_M_order_8 : decode jb_M_order 8 = .ok (.iload_n 2, 1) := by decide +kernel
theorem jd_M_order_9 : decode jb_M_order 9 = .ok (.iconst 1, 1) := by decide +kernel
theorem jd_M_order_10 : decode jb_M_order 10 = .ok (.bipush 99, 2) := by decide +kernel
theorem jd_M_order_12 : decode jb_M_order 12 = .ok (.invokestatic 158, 3) := by decide +kernel
theorem jd_M_order_15 : decode jb_M_order 15 = .ok (.ifCond .ne 5, 3) := by decide +kernel
theorem jd_M_order_18 : decode jb_M_order 18 = .ok (.iconst (-1), 1) := by decide +kernel
theorem jd_M_order_19 : decode jb_M_order 19 = .ok (.ireturn, 1) := by decide +kernel
theorem jd_M_order_20 : decode jb_M_order 20 = .ok (.aload_n 0, 1) := by decide +kernel
theorem jd_M_order_21 : decode jb_M_order 21 = .ok (.getfield 47, 3) := by decide +kernel
theorem jd_M_order_24 : decode jb_M_order 24 = .ok (.iload_n 1, 1) := by decide +kernel
theorem jd_M_order_25 : decode jb_M_order 25 = .ok (.iaload, 1) := by decide +kernel
theorem jd_M_order_26 : decode jb_M_order 26 = .ok (.ifCond .ge 6, 3) := by decide +kernel
theorem jd_M_order_29 : decode jb_M_order 29 = .ok (.bipush (-2), 2) := by decide +kernel
theorem jd_M_order_31 : decode jb_M_order 31 = .ok (.ireturn, 1) := by decide +kernel
theorem jd_M_order_32 : decode jb_M_order 32 = .ok (.aload_n 0, 1) := by decide +kernel
theorem jd_M_order_33 : decode jb_M_order 33 = .ok (.getfield 196, 3) := by decide +kernel
theorem jd_M_order_36 : decode jb_M_order 36 = .ok (.bipush 60, 2) := by decide +kernel
theorem jd_M_order_38 : decode jb_M_order 38 = .ok (.if_icmp .ne 6, 3) := by decide +kernel
theorem jd_M_order_41 : decode jb_M_order 41 = .ok (.bipush (-3), 2) := by decide +kernel
theorem jd_M_order_43 : decode jb_M_order 43 = .ok (.ireturn, 1) := by decide +kernel
theorem jd_M_order_44 : decode jb_M_order 44 = .ok (.aload_n 0, 1) := by decide +kernel
theorem jd_M_order_45 : decode jb_M_order 45 = .ok (.getfield 98, 3) := by decide +kernel
theorem jd_M_order_48 : decode jb_M_order 48 = .ok (.aload_n 0, 1) := by decide +kernel
theorem jd_M_order_49 : decode jb_M_order 49 = .ok (.getfield 196, 3) := by decide +kernel
theorem jd_M_order_52 : decode jb_M_order 52 = .ok (.iload_n 1, 1) := by decide +kernel
theorem jd_M_order_53 : decode jb_M_order 53 = .ok (.iastore, 1) := by decide +kernel
theorem jd_M_order_54 : decode jb_M_order 54 = .ok (.aload_n 0, 1) := by decide +kernel
theorem jd_M_order_55 : decode jb_M_order 55 = .ok (.getfield 101, 3) := by decide +kernel
theorem jd_M_order_58 : decode jb_M_order 58 = .ok (.aload_n 0, 1) := by decide +kernel
theorem jd_M_order_59 : decode jb_M_order 59 = .ok (.getfield 196, 3) := by decide +kernel
theorem jd_M_order_62 : decode jb_M_order 62 = .ok (.iload_n 2, 1) := by decide +kernel
theorem jd_M_order_63 : decode jb_M_order 63 = .ok (.iastore, 1) := by decide +kernel
theorem jd_M_order_64 : decode jb_M_order 64 = .ok (.aload_n 0, 1) := by decide +kernel
theorem jd_M_order_65 : decode jb_M_order 65 = .ok (.getfield 104, 3) := by decide +kernel
theorem jd_M_order_68 : decode jb_M_order 68 = .ok (.aload_n 0, 1) := by decide +kernel
theorem jd_M_order_69 : decode jb_M_order 69 = .ok (.getfield 196, 3) := by decide +kernel
theorem jd_M_order_72 : decode jb_M_order 72 = .ok (.iconst 0, 1) := by decide +kernel
theorem jd_M_order_73 : decode jb_M_order 73 = .ok (.bastore, 1) := by decide +kernel
theorem jd_M_order_74 : decode jb_M_order 74 = .ok (.aload_n 0, 1) := by decide +kernel
theorem jd_M_order_75 : decode jb_M_order 75 = .ok (.dup, 1) := by decide +kernel
theorem jd_M_order_76 : decode jb_M_order 76 = .ok (.getfield 196, 3) := by decide +kernel
theorem jd_M_order_79 : decode jb_M_order 79 = .ok (.iconst 1, 1) := by decide +kernel
theorem jd_M_order_80 : decode jb_M_order 80 = .ok (.iadd, 1) := by decide +kernel
theorem jd_M_order_81 : decode jb_M_order 81 = .ok (.putfield 196, 3) := by decide +kernel
theorem jd_M_order_84 : decode jb_M_order 84 = .ok (.aload_n 0, 1) := by decide +kernel
theorem jd_M_order_85 : decode jb_M_order 85 = .ok (.getfield 196, 3) := by decide +kernel
theorem jd_M_order_88 : decode jb_M_order 88 = .ok (.ireturn, 1) := by decide +kernel
def f_M_order (F : Nat) (x1 : Int32) (x2 : Int32) (I : j_M) : Option (Int32 × j_M) := j_bd (f_M_isParty F x1 I) (fun v1 I2 => (if v1 = 0 then some ((-1), I2) else j_bd (f_M_among F x2 1 99 I2) (fun v3 I4 => (if v3 = 0 then some ((-1), I4) else (if j_ok x1 100 = true then (if 0 ≤ (I4 228 (j_ix x1)) then (if (I4 215 46) = 60 then some ((-3), I4) else (if j_ok (I4 215 46) 60 = true then j_let (j_wr I4 242 (j_ix (I4 215 46)) x1) (fun I5 => (if j_ok (I5 215 46) 60 = true then j_let (j_wr I5 243 (j_ix (I5 215 46)) x2) (fun I6 => (if j_ok (I6 215 46) 60 = true then j_let (j_wr I6 244 (j_ix (I6 215 46)) (0 &&& 1)) (fun I7 => j_let (j_wr I7 215 46 ((I7 215 46) + 1)) (fun I8 => some (I8 215 46, I8))) else none)) else none)) else none)) else some ((-2), I4)) else none)))))
set_option maxRecDepth 100000 in
set_option maxHeartbeats 4000000 in
theorem k_M_order {l : Launch} {g : j_G} {b n : Nat} {P : j_R} {F : Nat} (hF : j_Fx 0 260 P) (hn : 260 ≤ n) {x1 : Int32} {x2 : Int32} {I : j_M} {r : Int32 × j_M}  (h : f_M_order F x1 x2 I = some r) : j_Met l g b n P 2 jy_M_order jb_M_order 3 (some .int) [.ref (b + 215), .int x1, .int x2] I r.2 (some (.int r.1)) := by
  unfold f_M_order at h
  refine j_enter (plainFor_of_name (by decide)) (Nat.le_of_ble_eq_true rfl) [some (.ref (b + 215)), some (.int x1), some (.int x2)] rfl ?_
  intro p e R s m args below meth c X0 hnm hRc hRs
  have X : j_X p R s m args meth c g b 2 jb_M_order 3 "PleasureGardenModel" (some .int) := X0
  clear X0
  refine j_aload_n X jd_M_order_0 rfl rfl ?_
  refine j_iload_n X jd_M_order_1 rfl rfl ?_
  refine j_callVi (As := [.int x1]) (st := []) (c0 := 215) X h jc_M js_215 (j_lt rfl hn) ⟨jqc_M_isParty, jqi_M_isParty, jqv_M_isParty, jqn_M⟩ jlm_M_206 jh_M_isParty rfl (by decide) (by decide) (Nat.le_of_ble_eq_true rfl) ⟨Nat.zero_le _, Nat.zero_le _⟩ (fun v0 I0 h => k_M_isParty (r := (v0, I0)) hF hn h) jd_M_order_2 rfl (fun v1 I2 h => ?_)
  refine j_if_eq (tgt := 18) X jd_M_order_5 rfl h (fun h => ?_) (fun h => ?_)
  · refine j_iconst (v := (-1)) X jd_M_order_18 (by decide) ?_
    exact j_iret X rfl jd_M_order_19 h
  · refine j_iload_n X jd_M_order_8 rfl rfl ?_
    refine j_iconst (v := 1) X jd_M_order_9 (by decide) ?_
    refine j_bipush (v := 99) X jd_M_order_10 (by decide) ?_
    refine j_callSi (As := [.int x2, .int 1, .int 99]) (st := []) X h ⟨jqc_M_among, jqs_M_among, jqn_M⟩ jlm_M_158 jh_M_among.2 rfl (by decide) (by decide) (Nat.le_of_ble_eq_true rfl) ⟨Nat.zero_le _, Nat.zero_le _⟩ (fun v0 I0 h => k_M_among (r := (v0, I0)) hF hn h) jd_M_order_12 rfl (fun v3 I4 h => ?_)
    refine j_if_ne (tgt := 20) X jd_M_order_15 rfl h (fun h => ?_) (fun h => ?_)
    · refine j_iconst (v := (-1)) X jd_M_order_18 (by decide) ?_
      exact j_iret X rfl jd_M_order_19 h
    · refine j_aload_n X jd_M_order_20 rfl rfl ?_
      refine j_getr X jf_M_47 jk_12_18 js_215 (j_lt rfl hn) (jp_215_18 hF) jd_M_order_21 ?_
      refine j_iload_n X jd_M_order_24 rfl rfl ?_
      refine j_iald X js_228 (j_lt rfl hn) jd_M_order_25 h (fun _ h => ?_)
      refine j_if_ge (tgt := 32) X jd_M_order_26 rfl h (fun h => ?_) (fun h => ?_)
      · refine j_aload_n X jd_M_order_32 rfl rfl ?_
        refine j_get X jf_M_196 jk_12_46 js_215 (j_lt rfl hn) jd_M_order_33 ?_
        refine j_bipush (v := 60) X jd_M_order_36 (by decide) ?_
        refine j_icmp_ne (tgt := 44) X jd_M_order_38 rfl h (fun h => ?_) (fun h => ?_)
        · refine j_bipush (v := (-3)) X jd_M_order_41 (by decide) ?_
          exact j_iret X rfl jd_M_order_43 h
        · refine j_aload_n X jd_M_order_44 rfl rfl ?_
          refine j_getr X jf_M_98 jk_12_47 js_215 (j_lt rfl hn) (jp_215_47 hF) jd_M_order_45 ?_
          refine j_aload_n X jd_M_order_48 rfl rfl ?_
          refine j_get X jf_M_196 jk_12_46 js_215 (j_lt rfl hn) jd_M_order_49 ?_
          refine j_iload_n X jd_M_order_52 rfl rfl ?_
          refine j_iast X js_242 (j_lt rfl hn) jd_M_order_53 h (fun h => ?_)
          refine j_mem h (fun I5 h => ?_)
          refine j_aload_n X jd_M_order_54 rfl rfl ?_
          refine j_getr X jf_M_101 jk_12_48 js_215 (j_lt rfl hn) (jp_215_48 hF) jd_M_order_55 ?_
          refine j_aload_n X jd_M_order_58 rfl rfl ?_
          refine j_get X jf_M_196 jk_12_46 js_215 (j_lt rfl hn) jd_M_order_59 ?_
          refine j_iload_n X jd_M_order_62 rfl rfl ?_
          refine j_iast X js_243 (j_lt rfl hn) jd_M_order_63 h (fun h => ?_)
          refine j_mem h (fun I6 h => ?_)
          refine j_aload_n X jd_M_order_64 rfl rfl ?_
          refine j_getr X jf_M_104 jk_12_49 js_215 (j_lt rfl hn) (jp_215_49 hF) jd_M_order_65 ?_
          refine j_aload_n X jd_M_order_68 rfl rfl ?_
          refine j_get X jf_M_196 jk_12_46 js_215 (j_lt rfl hn) jd_M_order_69 ?_
          refine j_iconst (v := 0) X jd_M_order_72 (by decide) ?_
          refine j_zast X js_244 (j_lt rfl hn) jd_M_order_73 h (fun h => ?_)
          refine j_mem h (fun I7 h => ?_)
          refine j_aload_n X jd_M_order_74 rfl rfl ?_
          refine j_dup X jd_M_order_75 rfl ?_
          refine j_get X jf_M_196 jk_12_46 js_215 (j_lt rfl hn) jd_M_order_76 ?_
          refine j_iconst (v := 1) X jd_M_order_79 (by decide) ?_
          refine j_iadd X jd_M_order_80 ?_
          refine j_puti X jt_M jto_M jn_M jf_M_196 jk_12_46 js_215 (j_lt rfl hn) (Or.inl rfl) rfl jd_M_order_81 ?_
          refine j_mem h (fun I8 h => ?_)
          refine j_aload_n X jd_M_order_84 rfl rfl ?_
          refine j_get X jf_M_196 jk_12_46 js_215 (j_lt rfl hn) jd_M_order_85 ?_
          exact j_iret X rfl jd_M_order_88 h
      · refine j_bipush (v := (-2)) X jd_M_order_29 (by decide) ?_
        exact j_iret X rfl jd_M_order_31 h
-- PleasureGardenModel.parse(I)I
theorem jd_M_parse_0 : decode jb_M_parse 0 = .ok (.aload_n 0, 1) := by decide +kernel
theorem jd_M_parse_1 : decode jb_M_parse 1 = .ok (.iconst 0, 1) := by decide +kernel
theorem jd_M_parse_2 : decode jb_M_parse 2 = .ok (.putfield 288, 3) := by decide +kernel
theorem jd_M_parse_5 : decode jb_M_parse 5 = .ok (.aload_n 0, 1) := by decide +kernel
theorem jd_M_parse_6 : decode jb_M_parse 6 = .ok (.iconst 0, 1) := by decide +kernel
theorem jd_M_parse_7 : decode jb_M_parse 7 = .ok (.putfield 279, 3) := by decide +kernel
theorem jd_M_parse_10 : decode jb_M_parse 10 = .ok (.aload_n 0, 1) := by decide +kernel
theorem jd_M_parse_11 : decode jb_M_parse 11 = .ok (.iconst 0, 1) := by decide +kernel
theorem jd_M_parse_12 : decode jb_M_parse 12 = .ok (.putfield 276, 3) := by decide +kernel
theorem jd_M_parse_15 : decode jb_M_parse 15 = .ok (.iconst 1, 1) := by decide +kernel
theorem jd_M_parse_16 : decode jb_M_parse 16 = .ok (.istore_n 2, 1) := by decide +kernel
theorem jd_M_parse_17 : decode jb_M_parse 17 = .ok (.iconst 0, 1) := by decide +kernel
theorem jd_M_parse_18 : decode jb_M_parse 18 = .ok (.istore_n 3, 1) := by decide +kernel
theorem jd_M_parse_19 : decode jb_M_parse 19 = .ok (.aload_n 0, 1) := by decide +kernel
theorem jd_M_parse_20 : decode jb_M_parse 20 = .ok (.getfield 288, 3) := by decide +kernel
theorem jd_M_parse_23 : decode jb_M_parse 23 = .ok (.aload_n 0, 1) := by decide +kernel
theorem jd_M_parse_24 : decode jb_M_parse 24 = .ok (.getfield 273, 3) := by decide +kernel
theorem jd_M_parse_27 : decode jb_M_parse 27 = .ok (.if_icmp .ge 294, 3) := by decide +kernel
theorem jd_M_parse_30 : decode jb_M_parse 30 = .ok (.aload_n 0, 1) := by decide +kernel
theorem jd_M_parse_31 : decode jb_M_parse 31 = .ok (.getfield 107, 3) := by decide +kernel
theorem jd_M_parse_34 : decode jb_M_parse 34 = .ok (.aload_n 0, 1) := by decide +kernel
theorem jd_M_parse_35 : decode jb_M_parse 35 = .ok (.getfield 288, 3) := by decide +kernel
theorem jd_M_parse_38 : decode jb_M_parse 38 = .ok (.baload, 1) := by decide +kernel
theorem jd_M_parse_39 : decode jb_M_parse 39 = .ok (.istore 4, 2) := by decide +kernel
theorem jd_M_parse_41 : decode jb_M_parse 41 = .ok (.iload_n 2, 1) := by decide +kernel
theorem jd_M_parse_42 : decode jb_M_parse 42 = .ok (.ifCond .eq 36, 3) := by decide +kernel
theorem jd_M_parse_45 : decode jb_M_parse 45 = .ok (.iload 4, 2) := by decide +kernel
theorem jd_M_parse_47 : decode jb_M_parse 47 = .ok (.bipush 40, 2) := by decide +kernel
theorem jd_M_parse_49 : decode jb_M_parse 49 = .ok (.if_icmp .ne 7, 3) := by decide +kernel
theorem jd_M_parse_52 : decode jb_M_parse 52 = .ok (.iconst 1, 1) := by decide +kernel
theorem jd_M_parse_53 : decode jb_M_parse 53 = .ok (.goto 4, 3) := by decide +kernel
theorem jd_M_parse_56 : decode jb_M_parse 56 = .ok (.iconst 0, 1) := by decide +kernel
theorem jd_M_parse_57 : decode jb_M_parse 57 = .ok (.istore 5, 2) := by decide +kernel
theorem jd_M_parse_59 : decode jb_M_parse 59 = .ok (.aload_n 0, 1) := by decide +kernel
theorem jd_M_parse_60 : decode jb_M_parse 60 = .ok (.iload_n 1, 1) := by decide +kernel
theorem jd_M_parse_61 : decode jb_M_parse 61 = .ok (.invokevirtual 298, 3) := by decide +kernel
theorem jd_M_parse_64 : decode jb_M_parse 64 = .ok (.ifCond .ne 8, 3) := by decide +kernel
theorem jd_M_parse_67 : decode jb_M_parse 67 = .ok (.aload_n 0, 1) := by decide +kernel
theorem jd_M_parse_68 : decode jb_M_parse 68 = .ok (.getfield 288, 3) := by decide +kernel
theorem jd_M_parse_71 : decode jb_M_parse 71 = .ok (.ireturn, 1) := by decide +kernel
theorem jd_M_parse_72 : decode jb_M_parse 72 = .ok (.iload 5, 2) := by decide +kernel
theorem jd_M_parse_74 : decode jb_M_parse 74 = .ok (.istore_n 2, 1) := by decide +kernel
theorem jd_M_parse_75 : decode jb_M_parse 75 = .ok (.goto (-56), 3) := by decide +kernel
theorem jd_M_parse_78 : decode jb_M_parse 78 = .ok (.iload 4, 2) := by decide +kernel
theorem jd_M_parse_80 : decode jb_M_parse 80 = .ok (.invokestatic 301, 3) := by decide +kernel
theorem jd_M_parse_83 : decode jb_M_parse 83 = .ok (.istore 5, 2) := by decide +kernel
theorem jd_M_parse_85 : decode jb_M_parse 85 = .ok (.iload 5, 2) := by decide +kernel
theorem jd_M_parse_87 : decode jb_M_parse 87 = .ok (.ifCond .le 99, 3) := by decide +kernel
theorem jd_M_parse_90 : decode jb_M_parse 90 = .ok (.iload 5, 2) := by decide +kernel
theorem jd_M_parse_92 : decode jb_M_parse 92 = .ok (.invokestatic 282, 3) := by decide +kernel
theorem jd_M_parse_95 : decode jb_M_parse 95 = .ok (.iconst 4, 1) := by decide +kernel
theorem jd_M_parse_96 : decode jb_M_parse 96 = .ok (.if_icmp .ne 7, 3) := by decide +kernel
theorem jd_M_parse_99 : decode jb_M_parse 99 = .ok (.iconst 1, 1) := by decide +kernel
theorem jd_M_parse_100 : decode jb_M_parse 100 = .ok (.goto 4, 3) := by decide +kernel
theorem jd_M_parse_103 : decode jb_M_parse 103 = .ok (.iconst 0, 1) := by decide +kernel
theorem jd_M_parse_104 : decode jb_M_parse 104 = .ok (.istore 6, 2) := by decide +kernel
theorem jd_M_parse_106 : decode jb_M_parse 106 = .ok (.aload_n 0, 1) := by decide +kernel
theorem jd_M_parse_107 : decode jb_M_parse 107 = .ok (.iload_n 1, 1) := by decide +kernel
theorem jd_M_parse_108 : decode jb_M_parse 108 = .ok (.iload 6, 2) := by decide +kernel
theorem jd_M_parse_110 : decode jb_M_parse 110 = .ok (.ifCond .eq 7, 3) := by decide +kernel
theorem jd_M_parse_113 : decode jb_M_parse 113 = .ok (.iconst 5, 1) := by decide +kernel
theorem jd_M_parse_114 : decode jb_M_parse 114 = .ok (.goto 8, 3) := by decide +kernel
theorem jd_M_parse_117 : decode jb_M_parse 117 = .ok (.iload 5, 2) := by decide +kernel
theorem jd_M_parse_119 : decode jb_M_parse 119 = .ok (.invokestatic 282, 3) := by decide +kernel
theorem jd_M_parse_122 : decode jb_M_parse 122 = .ok (.invokevirtual 304, 3) := by decide +kernel
theorem jd_M_parse_125 : decode jb_M_parse 125 = .ok (.iload 6, 2) := by decide +kernel
theorem jd_M_parse_127 : decode jb_M_parse 127 = .ok (.ifCond .eq 33, 3) := by decide +kernel
theorem jd_M_parse_130 : decode jb_M_parse 130 = .ok (.aload_n 0, 1) := by decide +kernel
theorem jd_M_parse_131 : decode jb_M_parse 131 = .ok (.getfield 279, 3) := by decide +kernel
theorem jd_M_parse_134 : decode jb_M_parse 134 = .ok (.ifCond .le 26, 3) := by decide +kernel
theorem jd_M_parse_137 : decode jb_M_parse 137 = .ok (.aload_n 0, 1) := by decide +kernel
theorem jd_M_parse_138 : decode jb_M_parse 138 = .ok (.getfield 128, 3) := by decide +kernel
theorem jd_M_parse_141 : decode jb_M_parse 141 = .ok (.aload_n 0, 1) := by decide +kernel
theorem jd_M_parse_142 : decode jb_M_parse 142 = .ok (.getfield 279, 3) := by decide +kernel
theorem jd_M_parse_145 : decode jb_M_parse 145 = .ok (.iconst 1, 1) := by decide +kernel
theorem jd_M_parse_146 : decode jb_M_parse 146 = .ok (.isub, 1) := by decide +kernel
theorem jd_M_parse_147 : decode jb_M_parse 147 = .ok (.iaload, 1) := by decide +kernel
theorem jd_M_parse_148 : decode jb_M_parse 148 = .ok (.invokestatic 282, 3) := by decide +kernel
theorem jd_M_parse_151 : decode jb_M_parse 151 = .ok (.iconst 4, 1) := by decide +kernel
theorem jd_M_parse_152 : decode jb_M_parse 152 = .ok (.if_icmp .ne 8, 3) := by decide +kernel
theorem jd_M_parse_155 : decode jb_M_parse 155 = .ok (.aload_n 0, 1) := by decide +kernel
theorem jd_M_parse_156 : decode jb_M_parse 156 = .ok (.getfield 288, 3) := by decide +kernel
theorem jd_M_parse_159 : decode jb_M_parse 159 = .ok (.ireturn, 1) := by decide +kernel
theorem jd_M_parse_160 : decode jb_M_parse 160 = .ok (.aload_n 0, 1) := by decide +kernel
theorem jd_M_parse_161 : decode jb_M_parse 161 = .ok (.getfield 128, 3) := by decide +kernel
theorem jd_M_parse_164 : decode jb_M_parse 164 = .ok (.aload_n 0, 1) := by decide +kernel
theorem jd_M_parse_165 : decode jb_M_parse 165 = .ok (.getfield 279, 3) := by decide +kernel
theorem jd_M_parse_168 : decode jb_M_parse 168 = .ok (.iload 5, 2) := by decide +kernel
theorem jd_M_parse_170 : decode jb_M_parse 170 = .ok (.iastore, 1) := by decide +kernel
theorem jd_M_parse_171 : decode jb_M_parse 171 = .ok (.aload_n 0, 1) := by decide +kernel
theorem jd_M_parse_172 : decode jb_M_parse 172 = .ok (.dup, 1) := by decide +kernel
theorem jd_M_parse_173 : decode jb_M_parse 173 = .ok (.getfield 279, 3) := by decide +kernel
theorem jd_M_parse_176 : decode jb_M_parse 176 = .ok (.iconst 1, 1) := by decide +kernel
theorem jd_M_parse_177 : decode jb_M_parse 177 = .ok (.iadd, 1) := by decide +kernel
theorem jd_M_parse_178 : decode jb_M_parse 178 = .ok (.putfield 279, 3) := by decide +kernel
theorem jd_M_parse_181 : decode jb_M_parse 181 = .ok (.iconst 1, 1) := by decide +kernel
theorem jd_M_parse_182 : decode jb_M_parse 182 = .ok (.istore_n 2, 1) := by decide +kernel
theorem jd_M_parse_183 : decode jb_M_parse 183 = .ok (.goto 125, 3) := by decide +kernel
theorem jd_M_parse_186 : decode jb_M_parse 186 = .ok (.iload 4, 2) := by decide +kernel
theorem jd_M_parse_188 : decode jb_M_parse 188 = .ok (.bipush 41, 2) := by decide +kernel
theorem jd_M_parse_190 : decode jb_M_parse 190 = .ok (.if_icmp .ne 34, 3) := by decide +kernel
theorem jd_M_parse_193 : decode jb_M_parse 193 = .ok (.aload_n 0, 1) := by decide +kernel
theorem jd_M_parse_194 : decode jb_M_parse 194 = .ok (.iload_n 1, 1) := by decide +kernel
theorem jd_M_parse_195 : decode jb_M_parse 195 = .ok (.iconst 1, 1) := by decide +kernel
theorem jd_M_parse_196 : decode jb_M_parse 196 = .ok (.invokevirtual 304, 3) := by decide +kernel
theorem jd_M_parse_199 : decode jb_M_parse 199 = .ok (.aload_n 0, 1) := by decide +kernel
theorem jd_M_parse_200 : decode jb_M_parse 200 = .ok (.getfield 279, 3) := by decide +kernel
theorem jd_M_parse_203 : decode jb_M_parse 203 = .ok (.ifCond .ne 8, 3) := by decide +kernel
theorem jd_M_parse_206 : decode jb_M_parse 206 = .ok (.aload_n 0, 1) := by decide +kernel
theorem jd_M_parse_207 : decode jb_M_parse 207 = .ok (.getfield 288, 3) := by decide +kernel
theorem jd_M_parse_210 : decode jb_M_parse 210 = .ok (.ireturn, 1) := by decide +kernel
theorem jd_M_parse_211 : decode jb_M_parse 211 = .ok (.aload_n 0, 1) := by decide +kernel
theorem jd_M_parse_212 : decode jb_M_parse 212 = .ok (.dup, 1) := by decide +kernel
theorem jd_M_parse_213 : decode jb_M_parse 213 = .ok (.getfield 279, 3) := by decide +kernel
theorem jd_M_parse_216 : decode jb_M_parse 216 = .ok (.iconst 1, 1) := by decide +kernel
theorem jd_M_parse_217 : decode jb_M_parse 217 = .ok (.isub, 1) := by decide +kernel
theorem jd_M_parse_218 : decode jb_M_parse 218 = .ok (.putfield 279, 3) := by decide +kernel
theorem jd_M_parse_221 : decode jb_M_parse 221 = .ok (.goto 87, 3) := by decide +kernel
theorem jd_M_parse_224 : decode jb_M_parse 224 = .ok (.iload 4, 2) := by decide +kernel
theorem jd_M_parse_226 : decode jb_M_parse 226 = .ok (.bipush 58, 2) := by decide +kernel
theorem jd_M_parse_228 : decode jb_M_parse 228 = .ok (.if_icmp .eq 10, 3) := by decide +kernel
theorem jd_M_parse_231 : decode jb_M_parse 231 = .ok (.iload 4, 2) := by decide +kernel
theorem jd_M_parse_233 : decode jb_M_parse 233 = .ok (.bipush 59, 2) := by decide +kernel
theorem jd_M_parse_235 : decode jb_M_parse 235 = .ok (.if_icmp .ne 68, 3) := by decide +kernel
theorem jd_M_parse_238 : decode jb_M_parse 238 = .ok (.aload_n 0, 1) := by decide +kernel
theorem jd_M_parse_239 : decode jb_M_parse 239 = .ok (.iload_n 1, 1) := by decide +kernel
theorem jd_M_parse_240 : decode jb_M_parse 240 = .ok (.iconst 1, 1) := by decide +kernel
theorem jd_M_parse_241 : decode jb_M_parse 241 = .ok (.invokevirtual 304, 3) := by decide +kernel
theorem jd_M_parse_244 : decode jb_M_parse 244 = .ok (.aload_n 0, 1) := by decide +kernel
theorem jd_M_parse_245 : decode jb_M_parse 245 = .ok (.getfield 279, 3) := by decide +kernel
theorem jd_M_parse_248 : decode jb_M_parse 248 = .ok (.ifCond .gt 14, 3) := by decide +kernel
theorem jd_M_parse_251 : decode jb_M_parse 251 = .ok (.iload 4, 2) := by decide +kernel
theorem jd_M_parse_253 : decode jb_M_parse 253 = .ok (.bipush 58, 2) := by decide +kernel
theorem jd_M_parse_255 : decode jb_M_parse 255 = .ok (.if_icmp .ne 12, 3) := by decide +kernel
theorem jd_M_parse_258 : decode jb_M_parse 258 = .ok (.iload_n 3, 1) := by decide +kernel
theorem jd_M_parse_259 : decode jb_M_parse 259 = .ok (.ifCond .eq 8, 3) := by decide +kernel
theorem jd_M_parse_262 : decode jb_M_parse 262 = .ok (.aload_n 0, 1) := by decide +kernel
theorem jd_M_parse_263 : decode jb_M_parse 263 = .ok (.getfield 288, 3) := by decide +kernel
theorem jd_M_parse_266 : decode jb_M_parse 266 = .ok (.ireturn, 1) := by decide +kernel
theorem jd_M_parse_267 : decode jb_M_parse 267 = .ok (.aload_n 0, 1) := by decide +kernel
theorem jd_M_parse_268 : decode jb_M_parse 268 = .ok (.iload_n 1, 1) := by decide +kernel
theorem jd_M_parse_269 : decode jb_M_parse 269 = .ok (.iload 4, 2) := by decide +kernel
theorem jd_M_parse_271 : decode jb_M_parse 271 = .ok (.bipush 58, 2) := by decide +kernel
theorem jd_M_parse_273 : decode jb_M_parse 273 = .ok (.if_icmp .ne 7, 3) := by decide +kernel
theorem jd_M_parse_276 : decode jb_M_parse 276 = .ok (.iconst 2, 1) := by decide +kernel
theorem jd_M_parse_277 : decode jb_M_parse 277 = .ok (.goto 4, 3) := by decide +kernel
theorem jd_M_parse_280 : decode jb_M_parse 280 = .ok (.iconst 3, 1) := by decide +kernel
theorem jd_M_parse_281 : decode jb_M_parse 281 = .ok (.iconst 0, 1) := by decide +kernel
theorem jd_M_parse_282 : decode jb_M_parse 282 = .ok (.invokevirtual 285, 3) := by decide +kernel
theorem jd_M_parse_285 : decode jb_M_parse 285 = .ok (.iload 4, 2) := by decide +kernel
theorem jd_M_parse_287 : decode jb_M_parse 287 = .ok (.bipush 58, 2) := by decide +kernel
theorem jd_M_parse_289 : decode jb_M_parse 289 = .ok (.if_icmp .ne 7, 3) := by decide +kernel
theorem jd_M_parse_292 : decode jb_M_parse 292 = .ok (.iconst 1, 1) := by decide +kernel
theorem jd_M_parse_293 : decode jb_M_parse 293 = .ok (.goto 4, 3) := by decide +kernel
theorem jd_M_parse_296 : decode jb_M_parse 296 = .ok (.iconst 0, 1) := by decide +kernel
theorem jd_M_parse_297 : decode jb_M_parse 297 = .ok (.istore_n 3, 1) := by decide +kernel
theorem jd_M_parse_298 : decode jb_M_parse 298 = .ok (.iconst 1, 1) := by decide +kernel
theorem jd_M_parse_299 : decode jb_M_parse 299 = .ok (.istore_n 2, 1) := by decide +kernel
theorem jd_M_parse_300 : decode jb_M_parse 300 = .ok (.goto 8, 3) := by decide +kernel
theorem jd_M_parse_303 : decode jb_M_parse 303 = .ok (.aload_n 0, 1) := by decide +kernel
theorem jd_M_parse_304 : decode jb_M_parse 304 = .ok (.getfield 288, 3) := by decide +kernel
theorem jd_M_parse_307 : decode jb_M_parse 307 = .ok (.ireturn, 1) := by decide +kernel
theorem jd_M_parse_308 : decode jb_M_parse 308 = .ok (.aload_n 0, 1) := by decide +kernel
theorem jd_M_parse_309 : decode jb_M_parse 309 = .ok (.dup, 1) := by decide +kernel
theorem jd_M_parse_310 : decode jb_M_parse 310 = .ok (.getfield 288, 3) := by decide +kernel
theorem jd_M_parse_313 : decode jb_M_parse 313 = .ok (.iconst 1, 1) := by decide +kernel
theorem jd_M_parse_314 : decode jb_M_parse 314 = .ok (.iadd, 1) := by decide +kernel
theorem jd_M_parse_315 : decode jb_M_parse 315 = .ok (.putfield 288, 3) := by decide +kernel
theorem jd_M_parse_318 : decode jb_M_parse 318 = .ok (.goto (-299), 3) := by decide +kernel
theorem jd_M_parse_321 : decode jb_M_parse 321 = .ok (.iload_n 2, 1) := by decide +kernel
theorem jd_M_parse_322 : decode jb_M_parse 322 = .ok (.ifCond .eq 8, 3) := by decide +kernel
theorem jd_M_parse_325 : decode jb_M_parse 325 = .ok (.aload_n 0, 1) := by decide +kernel
theorem jd_M_parse_326 : decode jb_M_parse 326 = .ok (.getfield 273, 3) := by decide +kernel
theorem jd_M_parse_329 : decode jb_M_parse 329 = .ok (.ireturn, 1) := by decide +kernel
theorem jd_M_parse_330 : decode jb_M_parse 330 = .ok (.aload_n 0, 1) := by decide +kernel
theorem jd_M_parse_331 : decode jb_M_parse 331 = .ok (.iload_n 1, 1) := by decide +kernel
theorem jd_M_parse_332 : decode jb_M_parse 332 = .ok (.iconst 1, 1) := by decide +kernel
theorem jd_M_parse_333 : decode jb_M_parse 333 = .ok (.invokevirtual 304, 3) := by decide +kernel
theorem jd_M_parse_336 : decode jb_M_parse 336 = .ok (.aload_n 0, 1) := by decide +kernel
theorem jd_M_parse_337 : decode jb_M_parse 337 = .ok (.getfield 279, 3) := by decide +kernel
theorem jd_M_parse_340 : decode jb_M_parse 340 = .ok (.ifCond .le 8, 3) := by decide +kernel
theorem jd_M_parse_343 : decode jb_M_parse 343 = .ok (.aload_n 0, 1) := by decide +kernel
theorem jd_M_parse_344 : decode jb_M_parse 344 = .ok (.getfield 273, 3) := by decide +kernel
theorem jd_M_parse_347 : decode jb_M_parse 347 = .ok (.ireturn, 1) := by decide +kernel
theorem jd_M_parse_348 : decode jb_M_parse 348 = .ok (.aload_n 0, 1) := by decide +kernel
theorem jd_M_parse_349 : decode jb_M_parse 349 = .ok (.iload_n 1, 1) := by decide +kernel
theorem jd_M_parse_350 : decode jb_M_parse 350 = .ok (.iconst 3, 1) := by decide +kernel
theorem jd_M_parse_351 : decode jb_M_parse 351 = .ok (.iconst 0, 1) := by decide +kernel
theorem jd_M_parse_352 : decode jb_M_parse 352 = .ok (.invokevirtual 285, 3) := by decide +kernel
theorem jd_M_parse_355 : decode jb_M_parse 355 = .ok (.iconst (-1), 1) := by decide +kernel
theorem jd_M_parse_356 : decode jb_M_parse 356 = .ok (.ireturn, 1) := by decide +kernel
def f_M_parse_308 (F : Nat) (kb19 : Int32 → Int32 → Int32 → j_M → Option (Int32 × j_M)) (x1 : Int32) (x2 : Int32) (x3 : Int32) (I : j_M) : Option (Int32 × j_M) := j_let (j_wr I 215 62 ((I 215 62) + 1)) (fun I1 => kb19 x1 x2 x3 I1)
def f_M_parse_297 (F : Nat) (kb19 : Int32 → Int32 → Int32 → j_M → Option (Int32 × j_M)) (x1 : Int32) (s0 : Int32) (I : j_M) : Option (Int32 × j_M) := f_M_parse_308 F kb19 x1 1 s0 I
def f_M_parse_281 (F : Nat) (kb19 : Int32 → Int32 → Int32 → j_M → Option (Int32 × j_M)) (x1 : Int32) (x4 : Int32) (s1 : Int32) (s2 : Int32) (I : j_M) : Option (Int32 × j_M) := j_bd (f_M_lay F s1 s2 0 I) (fun v2 I3 => (if x4 = 58 then f_M_parse_297 F kb19 x1 1 I3 else f_M_parse_297 F kb19 x1 0 I3))
def f_M_parse_267 (F : Nat) (kb19 : Int32 → Int32 → Int32 → j_M → Option (Int32 × j_M)) (x1 : Int32) (x4 : Int32) (I : j_M) : Option (Int32 × j_M) := (if x4 = 58 then f_M_parse_281 F kb19 x1 x4 x1 2 I else f_M_parse_281 F kb19 x1 x4 x1 3 I)
def f_M_parse_238 (F : Nat) (kb19 : Int32 → Int32 → Int32 → j_M → Option (Int32 × j_M)) (x1 : Int32) (x3 : Int32) (x4 : Int32) (I : j_M) : Option (Int32 × j_M) := j_bd (f_M_done F x1 1 I) (fun v4 I5 => (if 0 < (I5 215 60) then some (I5 215 62, I5) else (if x4 = 58 then (if x3 = 0 then f_M_parse_267 F kb19 x1 x4 I5 else some (I5 215 62, I5)) else f_M_parse_267 F kb19 x1 x4 I5)))
def f_M_parse_160 (F : Nat) (kb19 : Int32 → Int32 → Int32 → j_M → Option (Int32 × j_M)) (x1 : Int32) (x3 : Int32) (x5 : Int32) (I : j_M) : Option (Int32 × j_M) := (if j_ok (I 215 60) 130 = true then j_let (j_wr I 252 (j_ix (I 215 60)) x5) (fun I6 => j_let (j_wr I6 215 60 ((I6 215 60) + 1)) (fun I7 => f_M_parse_308 F kb19 x1 1 x3 I7)) else none)
def f_M_parse_122 (F : Nat) (kb19 : Int32 → Int32 → Int32 → j_M → Option (Int32 × j_M)) (x1 : Int32) (x3 : Int32) (x5 : Int32) (x6 : Int32) (s1 : Int32) (s2 : Int32) (I : j_M) : Option (Int32 × j_M) := j_bd (f_M_done F s1 s2 I) (fun v8 I9 => (if x6 = 0 then f_M_parse_160 F kb19 x1 x3 x5 I9 else (if (I9 215 60) ≤ 0 then f_M_parse_160 F kb19 x1 x3 x5 I9 else (if j_ok ((I9 215 60) - 1) 130 = true then j_bd (f_M_tight F (I9 252 (j_ix ((I9 215 60) - 1))) I9) (fun v10 I11 => (if v10 = 4 then some (I11 215 62, I11) else f_M_parse_160 F kb19 x1 x3 x5 I11)) else none))))
def f_M_parse_104 (F : Nat) (kb19 : Int32 → Int32 → Int32 → j_M → Option (Int32 × j_M)) (x1 : Int32) (x3 : Int32) (x5 : Int32) (s0 : Int32) (I : j_M) : Option (Int32 × j_M) := (if s0 = 0 then j_bd (f_M_tight F x5 I) (fun v12 I13 => f_M_parse_122 F kb19 x1 x3 x5 s0 x1 v12 I13) else f_M_parse_122 F kb19 x1 x3 x5 s0 x1 5 I)
def f_M_parse_57 (F : Nat) (kb19 : Int32 → Int32 → Int32 → j_M → Option (Int32 × j_M)) (x1 : Int32) (x3 : Int32) (s0 : Int32) (I : j_M) : Option (Int32 × j_M) := j_bd (f_M_operand F x1 I) (fun v14 I15 => (if v14 = 0 then some (I15 215 62, I15) else kb19 x1 s0 x3 I15))
def f_M_parse_19b (F : Nat) (kb19 : Int32 → Int32 → Int32 → j_M → Option (Int32 × j_M)) (x1 : Int32) (x2 : Int32) (x3 : Int32) (I : j_M) : Option (Int32 × j_M) := (if (I 215 51) ≤ (I 215 62) then (if x2 = 0 then j_bd (f_M_done F x1 1 I) (fun v16 I17 => (if (I17 215 60) ≤ 0 then j_bd (f_M_lay F x1 3 0 I17) (fun v18 I19 => some ((-1), I19)) else some (I17 215 51, I17))) else some (I 215 51, I)) else (if j_ok (I 215 62) 120 = true then j_let (I 245 (j_ix (I 215 62))) (fun v20 => (if x2 = 0 then j_bd (f_M_signOf F v20 I) (fun v21 I22 => (if v21 ≤ 0 then (if v20 = 41 then j_bd (f_M_done F x1 1 I22) (fun v23 I24 => (if (I24 215 60) = 0 then some (I24 215 62, I24) else j_let (j_wr I24 215 60 ((I24 215 60) - 1)) (fun I25 => f_M_parse_308 F kb19 x1 x2 x3 I25))) else (if v20 = 58 then f_M_parse_238 F kb19 x1 x3 v20 I22 else (if v20 = 59 then f_M_parse_238 F kb19 x1 x3 v20 I22 else some (I22 215 62, I22)))) else j_bd (f_M_tight F v21 I22) (fun v26 I27 => (if v26 = 4 then f_M_parse_104 F kb19 x1 x3 v21 1 I27 else f_M_parse_104 F kb19 x1 x3 v21 0 I27)))) else (if v20 = 40 then f_M_parse_57 F kb19 x1 x3 1 I else f_M_parse_57 F kb19 x1 x3 0 I))) else none))
def f_M_parse_19 (F : Nat)  (x1 : Int32) (x2 : Int32) (x3 : Int32) (I : j_M) : Option (Int32 × j_M) := j_it (fun (again : Int32 × Int32 × Int32 × j_M → Option (Int32 × j_M)) (q : Int32 × Int32 × Int32 × j_M) => f_M_parse_19b F  (fun x1 x2 x3 I => again (x1, x2, x3, I))  q.1 q.2.1 q.2.2.1 q.2.2.2) F (x1, x2, x3, I)
def f_M_parse (F : Nat) (x1 : Int32) (I : j_M) : Option (Int32 × j_M) := j_let (j_wr I 215 62 0) (fun I28 => j_let (j_wr I28 215 60 0) (fun I29 => j_let (j_wr I29 215 61 0) (fun I30 => f_M_parse_19 F x1 1 0 I30)))
set_option maxRecDepth 100000 in
set_option maxHeartbeats 4000000 in
theorem k_M_parse_308 {p : Program} {l : Launch} {e : Env} {R : Room} {s : State} {m : MethodId} {args : Array Value} {below : List Frame} {meth : Method} {c : Code} {g : j_G} {b n : Nat} {P : j_R} {F : Nat} (hF : j_Fx 0 260 P) (hn : 260 ≤ n) (X : j_X p R s m args meth c g b 2 jb_M_parse 7 "PleasureGardenModel" (some .int)) {kb19 : Int32 → Int32 → Int32 → j_M → Option (Int32 × j_M)} (hkb19 : ∀ (x1 : Int32) (x2 : Int32) (x3 : Int32) (I : j_M) (r : Int32 × j_M), kb19 x1 x2 x3 I = some r → j_W p l e R s m args below meth c 7 g b n 0 0 (j_Qi g b n P below args s r) I P 19 [some (.ref (b + 215)), some (.int x1), some (.int x2), some (.int x3), none, none, none] []) {x1 : Int32} {x2 : Int32} {x3 : Int32} {I : j_M} {r : Int32 × j_M}  (h : f_M_parse_308 F kb19 x1 x2 x3 I = some r) : j_W p l e R s m args below meth c 7 g b n 0 0 (j_Qi g b n P below args s r) I P 308 [some (.ref (b + 215)), some (.int x1), some (.int x2), some (.int x3), none, none, none] [] := by
  unfold f_M_parse_308 at h
  refine j_aload_n X jd_M_parse_308 rfl rfl ?_
  refine j_dup X jd_M_parse_309 rfl ?_
  refine j_get X jf_M_288 jk_12_62 js_215 (j_lt rfl hn) jd_M_parse_310 ?_
  refine j_iconst (v := 1) X jd_M_parse_313 (by decide) ?_
  refine j_iadd X jd_M_parse_314 ?_
  refine j_puti X jt_M jto_M jn_M jf_M_288 jk_12_62 js_215 (j_lt rfl hn) (Or.inl rfl) rfl jd_M_parse_315 ?_
  refine j_mem h (fun I1 h => ?_)
  refine j_goto (tgt := 19) X jd_M_parse_318 rfl ?_
  exact hkb19 _ _ _ _ _ h
set_option maxRecDepth 100000 in
set_option maxHeartbeats 4000000 in
theorem k_M_parse_297 {p : Program} {l : Launch} {e : Env} {R : Room} {s : State} {m : MethodId} {args : Array Value} {below : List Frame} {meth : Method} {c : Code} {g : j_G} {b n : Nat} {P : j_R} {F : Nat} (hF : j_Fx 0 260 P) (hn : 260 ≤ n) (X : j_X p R s m args meth c g b 2 jb_M_parse 7 "PleasureGardenModel" (some .int)) {kb19 : Int32 → Int32 → Int32 → j_M → Option (Int32 × j_M)} (hkb19 : ∀ (x1 : Int32) (x2 : Int32) (x3 : Int32) (I : j_M) (r : Int32 × j_M), kb19 x1 x2 x3 I = some r → j_W p l e R s m args below meth c 7 g b n 0 0 (j_Qi g b n P below args s r) I P 19 [some (.ref (b + 215)), some (.int x1), some (.int x2), some (.int x3), none, none, none] []) {x1 : Int32} {s0 : Int32} {I : j_M} {r : Int32 × j_M}  (h : f_M_parse_297 F kb19 x1 s0 I = some r) : j_W p l e R s m args below meth c 7 g b n 0 0 (j_Qi g b n P below args s r) I P 297 [some (.ref (b + 215)), some (.int x1), none, none, none, none, none] [.int s0] := by
  unfold f_M_parse_297 at h
  refine j_istore_n (lv' := [some (.ref (b + 215)), some (.int x1), none, some (.int s0), none, none, none]) X jd_M_parse_297 rfl (by decide) rfl ?_
  refine j_iconst (v := 1) X jd_M_parse_298 (by decide) ?_
  refine j_istore_n (lv' := [some (.ref (b + 215)), some (.int x1), some (.int 1), some (.int s0), none, none, none]) X jd_M_parse_299 rfl (by decide) rfl ?_
  refine j_goto (tgt := 308) X jd_M_parse_300 rfl ?_
  exact k_M_parse_308 hF hn X hkb19 h
set_option maxRecDepth 100000 in
set_option maxHeartbeats 4000000 in
theorem k_M_parse_281 {p : Program} {l : Launch} {e : Env} {R : Room} {s : State} {m : MethodId} {args : Array Value} {below : List Frame} {meth : Method} {c : Code} {g : j_G} {b n : Nat} {P : j_R} {F : Nat} (hF : j_Fx 0 260 P) (hn : 260 ≤ n) (X : j_X p R s m args meth c g b 2 jb_M_parse 7 "PleasureGardenModel" (some .int)) {kb19 : Int32 → Int32 → Int32 → j_M → Option (Int32 × j_M)} (hkb19 : ∀ (x1 : Int32) (x2 : Int32) (x3 : Int32) (I : j_M) (r : Int32 × j_M), kb19 x1 x2 x3 I = some r → j_W p l e R s m args below meth c 7 g b n 0 0 (j_Qi g b n P below args s r) I P 19 [some (.ref (b + 215)), some (.int x1), some (.int x2), some (.int x3), none, none, none] []) {x1 : Int32} {x4 : Int32} {s1 : Int32} {s2 : Int32} {I : j_M} {r : Int32 × j_M}  (h : f_M_parse_281 F kb19 x1 x4 s1 s2 I = some r) : j_W p l e R s m args below meth c 7 g b n 0 0 (j_Qi g b n P below args s r) I P 281 [some (.ref (b + 215)), some (.int x1), none, none, some (.int x4), none, none] [.int s2, .int s1, .ref (b + 215)] := by
  unfold f_M_parse_281 at h
  refine j_iconst (v := 0) X jd_M_parse_281 (by decide) ?_
  refine j_callVv (As := [.int s1, .int s2, .int 0]) (st := []) (c0 := 215) X h jc_M js_215 (j_lt rfl hn) ⟨jqc_M_lay, jqi_M_lay, jqv_M_lay, jqn_M⟩ jlm_M_285 jh_M_lay rfl (by decide) (by decide) (Nat.le_of_ble_eq_true rfl) ⟨Nat.zero_le _, Nat.zero_le _⟩ (fun v0 I0 h => k_M_lay (r := (v0, I0)) hF hn h) jd_M_parse_282 rfl (fun v2 I3 h => ?_)
  refine j_iload X jd_M_parse_285 rfl ?_
  refine j_bipush (v := 58) X jd_M_parse_287 (by decide) ?_
  refine j_icmp_ne (tgt := 296) X jd_M_parse_289 rfl h (fun h => ?_) (fun h => ?_)
  · refine j_iconst (v := 1) X jd_M_parse_292 (by decide) ?_
    refine j_goto (tgt := 297) X jd_M_parse_293 rfl ?_
    refine j_sub [true, true, false, false, false, false, false] (lv' := [some (.ref (b + 215)), some (.int x1), none, none, none, none, none]) rfl ?_
    exact k_M_parse_297 hF hn X hkb19 h
  · refine j_iconst (v := 0) X jd_M_parse_296 (by decide) ?_
    refine j_sub [true, true, false, false, false, false, false] (lv' := [some (.ref (b + 215)), some (.int x1), none, none, none, none, none]) rfl ?_
    exact k_M_parse_297 hF hn X hkb19 h
set_option maxRecDepth 100000 in
set_option maxHeartbeats 4000000 in
theorem k_M_parse_267 {p : Program} {l : Launch} {e : Env} {R : Room} {s : State} {m : MethodId} {args : Array Value} {below : List Frame} {meth : Method} {c : Code} {g : j_G} {b n : Nat} {P : j_R} {F : Nat} (hF : j_Fx 0 260 P) (hn : 260 ≤ n) (X : j_X p R s m args meth c g b 2 jb_M_parse 7 "PleasureGardenModel" (some .int)) {kb19 : Int32 → Int32 → Int32 → j_M → Option (Int32 × j_M)} (hkb19 : ∀ (x1 : Int32) (x2 : Int32) (x3 : Int32) (I : j_M) (r : Int32 × j_M), kb19 x1 x2 x3 I = some r → j_W p l e R s m args below meth c 7 g b n 0 0 (j_Qi g b n P below args s r) I P 19 [some (.ref (b + 215)), some (.int x1), some (.int x2), some (.int x3), none, none, none] []) {x1 : Int32} {x4 : Int32} {I : j_M} {r : Int32 × j_M}  (h : f_M_parse_267 F kb19 x1 x4 I = some r) : j_W p l e R s m args below meth c 7 g b n 0 0 (j_Qi g b n P below args s r) I P 267 [some (.ref (b + 215)), some (.int x1), none, none, some (.int x4), none, none] [] := by
  unfold f_M_parse_267 at h
  refine j_aload_n X jd_M_parse_267 rfl rfl ?_
  refine j_iload_n X jd_M_parse_268 rfl rfl ?_
  refine j_iload X jd_M_parse_269 rfl ?_
  refine j_bipush (v := 58) X jd_M_parse_271 (by decide) ?_
  refine j_icmp_ne (tgt := 280) X jd_M_parse_273 rfl h (fun h => ?_) (fun h => ?_)
  · refine j_iconst (v := 2) X jd_M_parse_276 (by decide) ?_
    refine j_goto (tgt := 281) X jd_M_parse_277 rfl ?_
    exact k_M_parse_281 hF hn X hkb19 h
  · refine j_iconst (v := 3) X jd_M_parse_280 (by decide) ?_
    exact k_M_parse_281 hF hn X hkb19 h
set_option maxRecDepth 100000 in
set_option maxHeartbeats 4000000 in
theorem k_M_parse_238 {p : Program} {l : Launch} {e : Env} {R : Room} {s : State} {m : MethodId} {args : Array Value} {below : List Frame} {meth : Method} {c : Code} {g : j_G} {b n : Nat} {P : j_R} {F : Nat} (hF : j_Fx 0 260 P) (hn : 260 ≤ n) (X : j_X p R s m args meth c g b 2 jb_M_parse 7 "PleasureGardenModel" (some .int)) {kb19 : Int32 → Int32 → Int32 → j_M → Option (Int32 × j_M)} (hkb19 : ∀ (x1 : Int32) (x2 : Int32) (x3 : Int32) (I : j_M) (r : Int32 × j_M), kb19 x1 x2 x3 I = some r → j_W p l e R s m args below meth c 7 g b n 0 0 (j_Qi g b n P below args s r) I P 19 [some (.ref (b + 215)), some (.int x1), some (.int x2), some (.int x3), none, none, none] []) {x1 : Int32} {x3 : Int32} {x4 : Int32} {I : j_M} {r : Int32 × j_M}  (h : f_M_parse_238 F kb19 x1 x3 x4 I = some r) : j_W p l e R s m args below meth c 7 g b n 0 0 (j_Qi g b n P below args s r) I P 238 [some (.ref (b + 215)), some (.int x1), none, some (.int x3), some (.int x4), none, none] [] := by
  unfold f_M_parse_238 at h
  refine j_aload_n X jd_M_parse_238 rfl rfl ?_
  refine j_iload_n X jd_M_parse_239 rfl rfl ?_
  refine j_iconst (v := 1) X jd_M_parse_240 (by decide) ?_
  refine j_callVv (As := [.int x1, .int 1]) (st := []) (c0 := 215) X h jc_M js_215 (j_lt rfl hn) ⟨jqc_M_done, jqi_M_done, jqv_M_done, jqn_M⟩ jlm_M_304 jh_M_done rfl (by decide) (by decide) (Nat.le_of_ble_eq_true rfl) ⟨Nat.zero_le _, Nat.zero_le _⟩ (fun v0 I0 h => k_M_done (r := (v0, I0)) hF hn h) jd_M_parse_241 rfl (fun v4 I5 h => ?_)
  refine j_aload_n X jd_M_parse_244 rfl rfl ?_
  refine j_get X jf_M_279 jk_12_60 js_215 (j_lt rfl hn) jd_M_parse_245 ?_
  refine j_if_gt (tgt := 262) X jd_M_parse_248 rfl h (fun h => ?_) (fun h => ?_)
  · refine j_aload_n X jd_M_parse_262 rfl rfl ?_
    refine j_get X jf_M_288 jk_12_62 js_215 (j_lt rfl hn) jd_M_parse_263 ?_
    exact j_iret X rfl jd_M_parse_266 h
  · refine j_iload X jd_M_parse_251 rfl ?_
    refine j_bipush (v := 58) X jd_M_parse_253 (by decide) ?_
    refine j_icmp_ne (tgt := 267) X jd_M_parse_255 rfl h (fun h => ?_) (fun h => ?_)
    · refine j_iload_n X jd_M_parse_258 rfl rfl ?_
      refine j_if_eq (tgt := 267) X jd_M_parse_259 rfl h (fun h => ?_) (fun h => ?_)
      · refine j_sub [true, true, false, false, true, false, false] (lv' := [some (.ref (b + 215)), some (.int x1), none, none, some (.int x4), none, none]) rfl ?_
        exact k_M_parse_267 hF hn X hkb19 h
      · refine j_aload_n X jd_M_parse_262 rfl rfl ?_
        refine j_get X jf_M_288 jk_12_62 js_215 (j_lt rfl hn) jd_M_parse_263 ?_
        exact j_iret X rfl jd_M_parse_266 h
    · refine j_sub [true, true, false, false, true, false, false] (lv' := [some (.ref (b + 215)), some (.int x1), none, none, some (.int x4), none, none]) rfl ?_
      exact k_M_parse_267 hF hn X hkb19 h
set_option maxRecDepth 100000 in
set_option maxHeartbeats 4000000 in
theorem k_M_parse_160 {p : Program} {l : Launch} {e : Env} {R : Room} {s : State} {m : MethodId} {args : Array Value} {below : List Frame} {meth : Method} {c : Code} {g : j_G} {b n : Nat} {P : j_R} {F : Nat} (hF : j_Fx 0 260 P) (hn : 260 ≤ n) (X : j_X p R s m args meth c g b 2 jb_M_parse 7 "PleasureGardenModel" (some .int)) {kb19 : Int32 → Int32 → Int32 → j_M → Option (Int32 × j_M)} (hkb19 : ∀ (x1 : Int32) (x2 : Int32) (x3 : Int32) (I : j_M) (r : Int32 × j_M), kb19 x1 x2 x3 I = some r → j_W p l e R s m args below meth c 7 g b n 0 0 (j_Qi g b n P below args s r) I P 19 [some (.ref (b + 215)), some (.int x1), some (.int x2), some (.int x3), none, none, none] []) {x1 : Int32} {x3 : Int32} {x5 : Int32} {I : j_M} {r : Int32 × j_M}  (h : f_M_parse_160 F kb19 x1 x3 x5 I = some r) : j_W p l e R s m args below meth c 7 g b n 0 0 (j_Qi g b n P below args s r) I P 160 [some (.ref (b + 215)), some (.int x1), none, some (.int x3), none, some (.int x5), none] [] := by
  unfold f_M_parse_160 at h
  refine j_aload_n X jd_M_parse_160 rfl rfl ?_
  refine j_getr X jf_M_128 jk_12_59 js_215 (j_lt rfl hn) (jp_215_59 hF) jd_M_parse_161 ?_
  refine j_aload_n X jd_M_parse_164 rfl rfl ?_
  refine j_get X jf_M_279 jk_12_60 js_215 (j_lt rfl hn) jd_M_parse_165 ?_
  refine j_iload X jd_M_parse_168 rfl ?_
  refine j_iast X js_252 (j_lt rfl hn) jd_M_parse_170 h (fun h => ?_)
  refine j_mem h (fun I6 h => ?_)
  refine j_aload_n X jd_M_parse_171 rfl rfl ?_
  refine j_dup X jd_M_parse_172 rfl ?_
  refine j_get X jf_M_279 jk_12_60 js_215 (j_lt rfl hn) jd_M_parse_173 ?_
  refine j_iconst (v := 1) X jd_M_parse_176 (by decide) ?_
  refine j_iadd X jd_M_parse_177 ?_
  refine j_puti X jt_M jto_M jn_M jf_M_279 jk_12_60 js_215 (j_lt rfl hn) (Or.inl rfl) rfl jd_M_parse_178 ?_
  refine j_mem h (fun I7 h => ?_)
  refine j_iconst (v := 1) X jd_M_parse_181 (by decide) ?_
  refine j_istore_n (lv' := [some (.ref (b + 215)), some (.int x1), some (.int 1), some (.int x3), none, some (.int x5), none]) X jd_M_parse_182 rfl (by decide) rfl ?_
  refine j_goto (tgt := 308) X jd_M_parse_183 rfl ?_
  refine j_sub [true, true, true, true, false, false, false] (lv' := [some (.ref (b + 215)), some (.int x1), some (.int 1), some (.int x3), none, none, none]) rfl ?_
  exact k_M_parse_308 hF hn X hkb19 h
set_option maxRecDepth 100000 in
set_option maxHeartbeats 4000000 in
theorem k_M_parse_122 {p : Program} {l : Launch} {e : Env} {R : Room} {s : State} {m : MethodId} {args : Array Value} {below : List Frame} {meth : Method} {c : Code} {g : j_G} {b n : Nat} {P : j_R} {F : Nat} (hF : j_Fx 0 260 P) (hn : 260 ≤ n) (X : j_X p R s m args meth c g b 2 jb_M_parse 7 "PleasureGardenModel" (some .int)) {kb19 : Int32 → Int32 → Int32 → j_M → Option (Int32 × j_M)} (hkb19 : ∀ (x1 : Int32) (x2 : Int32) (x3 : Int32) (I : j_M) (r : Int32 × j_M), kb19 x1 x2 x3 I = some r → j_W p l e R s m args below meth c 7 g b n 0 0 (j_Qi g b n P below args s r) I P 19 [some (.ref (b + 215)), some (.int x1), some (.int x2), some (.int x3), none, none, none] []) {x1 : Int32} {x3 : Int32} {x5 : Int32} {x6 : Int32} {s1 : Int32} {s2 : Int32} {I : j_M} {r : Int32 × j_M}  (h : f_M_parse_122 F kb19 x1 x3 x5 x6 s1 s2 I = some r) : j_W p l e R s m args below meth c 7 g b n 0 0 (j_Qi g b n P below args s r) I P 122 [some (.ref (b + 215)), some (.int x1), none, some (.int x3), none, some (.int x5), some (.int x6)] [.int s2, .int s1, .ref (b + 215)] := by
  unfold f_M_parse_122 at h
  refine j_callVv (As := [.int s1, .int s2]) (st := []) (c0 := 215) X h jc_M js_215 (j_lt rfl hn) ⟨jqc_M_done, jqi_M_done, jqv_M_done, jqn_M⟩ jlm_M_304 jh_M_done rfl (by decide) (by decide) (Nat.le_of_ble_eq_true rfl) ⟨Nat.zero_le _, Nat.zero_le _⟩ (fun v0 I0 h => k_M_done (r := (v0, I0)) hF hn h) jd_M_parse_122 rfl (fun v8 I9 h => ?_)
  refine j_iload X jd_M_parse_125 rfl ?_
  refine j_if_eq (tgt := 160) X jd_M_parse_127 rfl h (fun h => ?_) (fun h => ?_)
  · refine j_sub [true, true, false, true, false, true, false] (lv' := [some (.ref (b + 215)), some (.int x1), none, some (.int x3), none, some (.int x5), none]) rfl ?_
    exact k_M_parse_160 hF hn X hkb19 h
  · refine j_aload_n X jd_M_parse_130 rfl rfl ?_
    refine j_get X jf_M_279 jk_12_60 js_215 (j_lt rfl hn) jd_M_parse_131 ?_
    refine j_if_le (tgt := 160) X jd_M_parse_134 rfl h (fun h => ?_) (fun h => ?_)
    · refine j_sub [true, true, false, true, false, true, false] (lv' := [some (.ref (b + 215)), some (.int x1), none, some (.int x3), none, some (.int x5), none]) rfl ?_
      exact k_M_parse_160 hF hn X hkb19 h
    · refine j_aload_n X jd_M_parse_137 rfl rfl ?_
      refine j_getr X jf_M_128 jk_12_59 js_215 (j_lt rfl hn) (jp_215_59 hF) jd_M_parse_138 ?_
      refine j_aload_n X jd_M_parse_141 rfl rfl ?_
      refine j_get X jf_M_279 jk_12_60 js_215 (j_lt rfl hn) jd_M_parse_142 ?_
      refine j_iconst (v := 1) X jd_M_parse_145 (by decide) ?_
      refine j_isub X jd_M_parse_146 ?_
      refine j_iald X js_252 (j_lt rfl hn) jd_M_parse_147 h (fun _ h => ?_)
      refine j_callSi (As := [.int (I9 252 (j_ix ((I9 215 60) - 1)))]) (st := []) X h ⟨jqc_M_tight, jqs_M_tight, jqn_M⟩ jlm_M_282 jh_M_tight.2 rfl (by decide) (by decide) (Nat.le_of_ble_eq_true rfl) ⟨Nat.zero_le _, Nat.zero_le _⟩ (fun v0 I0 h => k_M_tight (r := (v0, I0)) hF hn h) jd_M_parse_148 rfl (fun v10 I11 h => ?_)
      refine j_iconst (v := 4) X jd_M_parse_151 (by decide) ?_
      refine j_icmp_ne (tgt := 160) X jd_M_parse_152 rfl h (fun h => ?_) (fun h => ?_)
      · refine j_aload_n X jd_M_parse_155 rfl rfl ?_
        refine j_get X jf_M_288 jk_12_62 js_215 (j_lt rfl hn) jd_M_parse_156 ?_
        exact j_iret X rfl jd_M_parse_159 h
      · refine j_sub [true, true, false, true, false, true, false] (lv' := [some (.ref (b + 215)), some (.int x1), none, some (.int x3), none, some (.int x5), none]) rfl ?_
        exact k_M_parse_160 hF hn X hkb19 h
set_option maxRecDepth 100000 in
set_option maxHeartbeats 4000000 in
theorem k_M_parse_104 {p : Program} {l : Launch} {e : Env} {R : Room} {s : State} {m : MethodId} {args : Array Value} {below : List Frame} {meth : Method} {c : Code} {g : j_G} {b n : Nat} {P : j_R} {F : Nat} (hF : j_Fx 0 260 P) (hn : 260 ≤ n) (X : j_X p R s m args meth c g b 2 jb_M_parse 7 "PleasureGardenModel" (some .int)) {kb19 : Int32 → Int32 → Int32 → j_M → Option (Int32 × j_M)} (hkb19 : ∀ (x1 : Int32) (x2 : Int32) (x3 : Int32) (I : j_M) (r : Int32 × j_M), kb19 x1 x2 x3 I = some r → j_W p l e R s m args below meth c 7 g b n 0 0 (j_Qi g b n P below args s r) I P 19 [some (.ref (b + 215)), some (.int x1), some (.int x2), some (.int x3), none, none, none] []) {x1 : Int32} {x3 : Int32} {x5 : Int32} {s0 : Int32} {I : j_M} {r : Int32 × j_M}  (h : f_M_parse_104 F kb19 x1 x3 x5 s0 I = some r) : j_W p l e R s m args below meth c 7 g b n 0 0 (j_Qi g b n P below args s r) I P 104 [some (.ref (b + 215)), some (.int x1), none, some (.int x3), none, some (.int x5), none] [.int s0] := by
  unfold f_M_parse_104 at h
  refine j_istore (lv' := [some (.ref (b + 215)), some (.int x1), none, some (.int x3), none, some (.int x5), some (.int s0)]) X jd_M_parse_104 (by decide) rfl ?_
  refine j_aload_n X jd_M_parse_106 rfl rfl ?_
  refine j_iload_n X jd_M_parse_107 rfl rfl ?_
  refine j_iload X jd_M_parse_108 rfl ?_
  refine j_if_eq (tgt := 117) X jd_M_parse_110 rfl h (fun h => ?_) (fun h => ?_)
  · refine j_iload X jd_M_parse_117 rfl ?_
    refine j_callSi (As := [.int x5]) (st := [.int x1, .ref (b + 215)]) X h ⟨jqc_M_tight, jqs_M_tight, jqn_M⟩ jlm_M_282 jh_M_tight.2 rfl (by decide) (by decide) (Nat.le_of_ble_eq_true rfl) ⟨Nat.zero_le _, Nat.zero_le _⟩ (fun v0 I0 h => k_M_tight (r := (v0, I0)) hF hn h) jd_M_parse_119 rfl (fun v12 I13 h => ?_)
    exact k_M_parse_122 hF hn X hkb19 h
  · refine j_iconst (v := 5) X jd_M_parse_113 (by decide) ?_
    refine j_goto (tgt := 122) X jd_M_parse_114 rfl ?_
    exact k_M_parse_122 hF hn X hkb19 h
set_option maxRecDepth 100000 in
set_option maxHeartbeats 4000000 in
theorem k_M_parse_57 {p : Program} {l : Launch} {e : Env} {R : Room} {s : State} {m : MethodId} {args : Array Value} {below : List Frame} {meth : Method} {c : Code} {g : j_G} {b n : Nat} {P : j_R} {F : Nat} (hF : j_Fx 0 260 P) (hn : 260 ≤ n) (X : j_X p R s m args meth c g b 2 jb_M_parse 7 "PleasureGardenModel" (some .int)) {kb19 : Int32 → Int32 → Int32 → j_M → Option (Int32 × j_M)} (hkb19 : ∀ (x1 : Int32) (x2 : Int32) (x3 : Int32) (I : j_M) (r : Int32 × j_M), kb19 x1 x2 x3 I = some r → j_W p l e R s m args below meth c 7 g b n 0 0 (j_Qi g b n P below args s r) I P 19 [some (.ref (b + 215)), some (.int x1), some (.int x2), some (.int x3), none, none, none] []) {x1 : Int32} {x3 : Int32} {s0 : Int32} {I : j_M} {r : Int32 × j_M}  (h : f_M_parse_57 F kb19 x1 x3 s0 I = some r) : j_W p l e R s m args below meth c 7 g b n 0 0 (j_Qi g b n P below args s r) I P 57 [some (.ref (b + 215)), some (.int x1), none, some (.int x3), none, none, none] [.int s0] := by
  unfold f_M_parse_57 at h
  refine j_istore (lv' := [some (.ref (b + 215)), some (.int x1), none, some (.int x3), none, some (.int s0), none]) X jd_M_parse_57 (by decide) rfl ?_
  refine j_aload_n X jd_M_parse_59 rfl rfl ?_
  refine j_iload_n X jd_M_parse_60 rfl rfl ?_
  refine j_callVi (As := [.int x1]) (st := []) (c0 := 215) X h jc_M js_215 (j_lt rfl hn) ⟨jqc_M_operand, jqi_M_operand, jqv_M_operand, jqn_M⟩ jlm_M_298 jh_M_operand rfl (by decide) (by decide) (Nat.le_of_ble_eq_true rfl) ⟨Nat.zero_le _, Nat.zero_le _⟩ (fun v0 I0 h => k_M_operand (r := (v0, I0)) hF hn h) jd_M_parse_61 rfl (fun v14 I15 h => ?_)
  refine j_if_ne (tgt := 72) X jd_M_parse_64 rfl h (fun h => ?_) (fun h => ?_)
  · refine j_aload_n X jd_M_parse_67 rfl rfl ?_
    refine j_get X jf_M_288 jk_12_62 js_215 (j_lt rfl hn) jd_M_parse_68 ?_
    exact j_iret X rfl jd_M_parse_71 h
  · refine j_iload X jd_M_parse_72 rfl ?_
    refine j_istore_n (lv' := [some (.ref (b + 215)), some (.int x1), some (.int s0), some (.int x3), none, some (.int s0), none]) X jd_M_parse_74 rfl (by decide) rfl ?_
    refine j_goto (tgt := 19) X jd_M_parse_75 rfl ?_
    refine j_sub [true, true, true, true, false, false, false] (lv' := [some (.ref (b + 215)), some (.int x1), some (.int s0), some (.int x3), none, none, none]) rfl ?_
    exact hkb19 _ _ _ _ _ h
set_option maxRecDepth 100000 in
set_option maxHeartbeats 4000000 in
theorem k_M_parse_19b {p : Program} {l : Launch} {e : Env} {R : Room} {s : State} {m : MethodId} {args : Array Value} {below : List Frame} {meth : Method} {c : Code} {g : j_G} {b n : Nat} {P : j_R} {F : Nat} (hF : j_Fx 0 260 P) (hn : 260 ≤ n) (X : j_X p R s m args meth c g b 2 jb_M_parse 7 "PleasureGardenModel" (some .int)) {kb19 : Int32 → Int32 → Int32 → j_M → Option (Int32 × j_M)} (hkb19 : ∀ (x1 : Int32) (x2 : Int32) (x3 : Int32) (I : j_M) (r : Int32 × j_M), kb19 x1 x2 x3 I = some r → j_W p l e R s m args below meth c 7 g b n 0 0 (j_Qi g b n P below args s r) I P 19 [some (.ref (b + 215)), some (.int x1), some (.int x2), some (.int x3), none, none, none] []) {x1 : Int32} {x2 : Int32} {x3 : Int32} {I : j_M} {r : Int32 × j_M}  (h : f_M_parse_19b F kb19 x1 x2 x3 I = some r) : j_W p l e R s m args below meth c 7 g b n 0 0 (j_Qi g b n P below args s r) I P 19 [some (.ref (b + 215)), some (.int x1), some (.int x2), some (.int x3), none, none, none] [] := by
  unfold f_M_parse_19b at h
  refine j_aload_n X jd_M_parse_19 rfl rfl ?_
  refine j_get X jf_M_288 jk_12_62 js_215 (j_lt rfl hn) jd_M_parse_20 ?_
  refine j_aload_n X jd_M_parse_23 rfl rfl ?_
  refine j_get X jf_M_273 jk_12_51 js_215 (j_lt rfl hn) jd_M_parse_24 ?_
  refine j_icmp_ge (tgt := 321) X jd_M_parse_27 rfl h (fun h => ?_) (fun h => ?_)
  · refine j_iload_n X jd_M_parse_321 rfl rfl ?_
    refine j_if_eq (tgt := 330) X jd_M_parse_322 rfl h (fun h => ?_) (fun h => ?_)
    · refine j_aload_n X jd_M_parse_330 rfl rfl ?_
      refine j_iload_n X jd_M_parse_331 rfl rfl ?_
      refine j_iconst (v := 1) X jd_M_parse_332 (by decide) ?_
      refine j_callVv (As := [.int x1, .int 1]) (st := []) (c0 := 215) X h jc_M js_215 (j_lt rfl hn) ⟨jqc_M_done, jqi_M_done, jqv_M_done, jqn_M⟩ jlm_M_304 jh_M_done rfl (by decide) (by decide) (Nat.le_of_ble_eq_true rfl) ⟨Nat.zero_le _, Nat.zero_le _⟩ (fun v0 I0 h => k_M_done (r := (v0, I0)) hF hn h) jd_M_parse_333 rfl (fun v16 I17 h => ?_)
      refine j_aload_n X jd_M_parse_336 rfl rfl ?_
      refine j_get X jf_M_279 jk_12_60 js_215 (j_lt rfl hn) jd_M_parse_337 ?_
      refine j_if_le (tgt := 348) X jd_M_parse_340 rfl h (fun h => ?_) (fun h => ?_)
      · refine j_aload_n X jd_M_parse_348 rfl rfl ?_
        refine j_iload_n X jd_M_parse_349 rfl rfl ?_
        refine j_iconst (v := 3) X jd_M_parse_350 (by decide) ?_
        refine j_iconst (v := 0) X jd_M_parse_351 (by decide) ?_
        refine j_callVv (As := [.int x1, .int 3, .int 0]) (st := []) (c0 := 215) X h jc_M js_215 (j_lt rfl hn) ⟨jqc_M_lay, jqi_M_lay, jqv_M_lay, jqn_M⟩ jlm_M_285 jh_M_lay rfl (by decide) (by decide) (Nat.le_of_ble_eq_true rfl) ⟨Nat.zero_le _, Nat.zero_le _⟩ (fun v0 I0 h => k_M_lay (r := (v0, I0)) hF hn h) jd_M_parse_352 rfl (fun v18 I19 h => ?_)
        refine j_iconst (v := (-1)) X jd_M_parse_355 (by decide) ?_
        exact j_iret X rfl jd_M_parse_356 h
      · refine j_aload_n X jd_M_parse_343 rfl rfl ?_
        refine j_get X jf_M_273 jk_12_51 js_215 (j_lt rfl hn) jd_M_parse_344 ?_
        exact j_iret X rfl jd_M_parse_347 h
    · refine j_aload_n X jd_M_parse_325 rfl rfl ?_
      refine j_get X jf_M_273 jk_12_51 js_215 (j_lt rfl hn) jd_M_parse_326 ?_
      exact j_iret X rfl jd_M_parse_329 h
  · refine j_aload_n X jd_M_parse_30 rfl rfl ?_
    refine j_getr X jf_M_107 jk_12_50 js_215 (j_lt rfl hn) (jp_215_50 hF) jd_M_parse_31 ?_
    refine j_aload_n X jd_M_parse_34 rfl rfl ?_
    refine j_get X jf_M_288 jk_12_62 js_215 (j_lt rfl hn) jd_M_parse_35 ?_
    refine j_bald X js_245 (j_lt rfl hn) jd_M_parse_38 h (fun _ h => ?_)
    refine j_nm h (fun v20 h => ?_)
    refine j_istore (lv' := [some (.ref (b + 215)), some (.int x1), some (.int x2), some (.int x3), some (.int v20), none, none]) X jd_M_parse_39 (by decide) rfl ?_
    refine j_iload_n X jd_M_parse_41 rfl rfl ?_
    refine j_if_eq (tgt := 78) X jd_M_parse_42 rfl h (fun h => ?_) (fun h => ?_)
    · refine j_iload X jd_M_parse_78 rfl ?_
      refine j_callSi (As := [.int v20]) (st := []) X h ⟨jqc_M_signOf, jqs_M_signOf, jqn_M⟩ jlm_M_301 jh_M_signOf.2 rfl (by decide) (by decide) (Nat.le_of_ble_eq_true rfl) ⟨Nat.zero_le _, Nat.zero_le _⟩ (fun v0 I0 h => k_M_signOf (r := (v0, I0)) hF hn h) jd_M_parse_80 rfl (fun v21 I22 h => ?_)
      refine j_istore (lv' := [some (.ref (b + 215)), some (.int x1), some (.int x2), some (.int x3), some (.int v20), some (.int v21), none]) X jd_M_parse_83 (by decide) rfl ?_
      refine j_iload X jd_M_parse_85 rfl ?_
      refine j_if_le (tgt := 186) X jd_M_parse_87 rfl h (fun h => ?_) (fun h => ?_)
      · refine j_iload X jd_M_parse_186 rfl ?_
        refine j_bipush (v := 41) X jd_M_parse_188 (by decide) ?_
        refine j_icmp_ne (tgt := 224) X jd_M_parse_190 rfl h (fun h => ?_) (fun h => ?_)
        · refine j_aload_n X jd_M_parse_193 rfl rfl ?_
          refine j_iload_n X jd_M_parse_194 rfl rfl ?_
          refine j_iconst (v := 1) X jd_M_parse_195 (by decide) ?_
          refine j_callVv (As := [.int x1, .int 1]) (st := []) (c0 := 215) X h jc_M js_215 (j_lt rfl hn) ⟨jqc_M_done, jqi_M_done, jqv_M_done, jqn_M⟩ jlm_M_304 jh_M_done rfl (by decide) (by decide) (Nat.le_of_ble_eq_true rfl) ⟨Nat.zero_le _, Nat.zero_le _⟩ (fun v0 I0 h => k_M_done (r := (v0, I0)) hF hn h) jd_M_parse_196 rfl (fun v23 I24 h => ?_)
          refine j_aload_n X jd_M_parse_199 rfl rfl ?_
          refine j_get X jf_M_279 jk_12_60 js_215 (j_lt rfl hn) jd_M_parse_200 ?_
          refine j_if_ne (tgt := 211) X jd_M_parse_203 rfl h (fun h => ?_) (fun h => ?_)
          · refine j_aload_n X jd_M_parse_206 rfl rfl ?_
            refine j_get X jf_M_288 jk_12_62 js_215 (j_lt rfl hn) jd_M_parse_207 ?_
            exact j_iret X rfl jd_M_parse_210 h
          · refine j_aload_n X jd_M_parse_211 rfl rfl ?_
            refine j_dup X jd_M_parse_212 rfl ?_
            refine j_get X jf_M_279 jk_12_60 js_215 (j_lt rfl hn) jd_M_parse_213 ?_
            refine j_iconst (v := 1) X jd_M_parse_216 (by decide) ?_
            refine j_isub X jd_M_parse_217 ?_
            refine j_puti X jt_M jto_M jn_M jf_M_279 jk_12_60 js_215 (j_lt rfl hn) (Or.inl rfl) rfl jd_M_parse_218 ?_
            refine j_mem h (fun I25 h => ?_)
            refine j_goto (tgt := 308) X jd_M_parse_221 rfl ?_
            refine j_sub [true, true, true, true, false, false, false] (lv' := [some (.ref (b + 215)), some (.int x1), some (.int x2), some (.int x3), none, none, none]) rfl ?_
            exact k_M_parse_308 hF hn X hkb19 h
        · refine j_iload X jd_M_parse_224 rfl ?_
          refine j_bipush (v := 58) X jd_M_parse_226 (by decide) ?_
          refine j_icmp_eq (tgt := 238) X jd_M_parse_228 rfl h (fun h => ?_) (fun h => ?_)
          · refine j_sub [true, true, false, true, true, false, false] (lv' := [some (.ref (b + 215)), some (.int x1), none, some (.int x3), some (.int v20), none, none]) rfl ?_
            exact k_M_parse_238 hF hn X hkb19 h
          · refine j_iload X jd_M_parse_231 rfl ?_
            refine j_bipush (v := 59) X jd_M_parse_233 (by decide) ?_
            refine j_icmp_ne (tgt := 303) X jd_M_parse_235 rfl h (fun h => ?_) (fun h => ?_)
            · refine j_sub [true, true, false, true, true, false, false] (lv' := [some (.ref (b + 215)), some (.int x1), none, some (.int x3), some (.int v20), none, none]) rfl ?_
              exact k_M_parse_238 hF hn X hkb19 h
            · refine j_aload_n X jd_M_parse_303 rfl rfl ?_
              refine j_get X jf_M_288 jk_12_62 js_215 (j_lt rfl hn) jd_M_parse_304 ?_
              exact j_iret X rfl jd_M_parse_307 h
      · refine j_iload X jd_M_parse_90 rfl ?_
        refine j_callSi (As := [.int v21]) (st := []) X h ⟨jqc_M_tight, jqs_M_tight, jqn_M⟩ jlm_M_282 jh_M_tight.2 rfl (by decide) (by decide) (Nat.le_of_ble_eq_true rfl) ⟨Nat.zero_le _, Nat.zero_le _⟩ (fun v0 I0 h => k_M_tight (r := (v0, I0)) hF hn h) jd_M_parse_92 rfl (fun v26 I27 h => ?_)
        refine j_iconst (v := 4) X jd_M_parse_95 (by decide) ?_
        refine j_icmp_ne (tgt := 103) X jd_M_parse_96 rfl h (fun h => ?_) (fun h => ?_)
        · refine j_iconst (v := 1) X jd_M_parse_99 (by decide) ?_
          refine j_goto (tgt := 104) X jd_M_parse_100 rfl ?_
          refine j_sub [true, true, false, true, false, true, false] (lv' := [some (.ref (b + 215)), some (.int x1), none, some (.int x3), none, some (.int v21), none]) rfl ?_
          exact k_M_parse_104 hF hn X hkb19 h
        · refine j_iconst (v := 0) X jd_M_parse_103 (by decide) ?_
          refine j_sub [true, true, false, true, false, true, false] (lv' := [some (.ref (b + 215)), some (.int x1), none, some (.int x3), none, some (.int v21), none]) rfl ?_
          exact k_M_parse_104 hF hn X hkb19 h
    · refine j_iload X jd_M_parse_45 rfl ?_
      refine j_bipush (v := 40) X jd_M_parse_47 (by decide) ?_
      refine j_icmp_ne (tgt := 56) X jd_M_parse_49 rfl h (fun h => ?_) (fun h => ?_)
      · refine j_iconst (v := 1) X jd_M_parse_52 (by decide) ?_
        refine j_goto (tgt := 57) X jd_M_parse_53 rfl ?_
        refine j_sub [true, true, false, true, false, false, false] (lv' := [some (.ref (b + 215)), some (.int x1), none, some (.int x3), none, none, none]) rfl ?_
        exact k_M_parse_57 hF hn X hkb19 h
      · refine j_iconst (v := 0) X jd_M_parse_56 (by decide) ?_
        refine j_sub [true, true, false, true, false, false, false] (lv' := [some (.ref (b + 215)), some (.int x1), none, some (.int x3), none, none, none]) rfl ?_
        exact k_M_parse_57 hF hn X hkb19 h
set_option maxRecDepth 100000 in
set_option maxHeartbeats 4000000 in
theorem k_M_parse_19 {p : Program} {l : Launch} {e : Env} {R : Room} {s : State} {m : MethodId} {args : Array Value} {below : List Frame} {meth : Method} {c : Code} {g : j_G} {b n : Nat} {P : j_R} {F : Nat} (hF : j_Fx 0 260 P) (hn : 260 ≤ n) (X : j_X p R s m args meth c g b 2 jb_M_parse 7 "PleasureGardenModel" (some .int))  {x1 : Int32} {x2 : Int32} {x3 : Int32} {I : j_M} {r : Int32 × j_M} (h : f_M_parse_19 F x1 x2 x3 I = some r) : j_W p l e R s m args below meth c 7 g b n 0 0 (j_Qi g b n P below args s r) I P 19 [some (.ref (b + 215)), some (.int x1), some (.int x2), some (.int x3), none, none, none] [] := by
  refine j_loop (G := fun (q : Int32 × Int32 × Int32 × j_M) (r : Int32 × j_M) => j_W p l e R s m args below meth c 7 g b n 0 0 (j_Qi g b n P below args s r) q.2.2.2 P 19 [some (.ref (b + 215)), some (.int (q.1)), some (.int (q.2.1)), some (.int (q.2.2.1)), none, none, none] []) ?_ F (x1, x2, x3, I) r h
  intro again hrec0 q r h
  exact k_M_parse_19b hF hn X (fun x1 x2 x3 I r h => hrec0 (x1, x2, x3, I) r h)  h
set_option maxRecDepth 100000 in
set_option maxHeartbeats 4000000 in
theorem k_M_parse {l : Launch} {g : j_G} {b n : Nat} {P : j_R} {F : Nat} (hF : j_Fx 0 260 P) (hn : 260 ≤ n) {x1 : Int32} {I : j_M} {r : Int32 × j_M}  (h : f_M_parse F x1 I = some r) : j_Met l g b n P 2 jy_M_parse jb_M_parse 7 (some .int) [.ref (b + 215), .int x1] I r.2 (some (.int r.1)) := by
  unfold f_M_parse at h
  refine j_enter (plainFor_of_name (by decide)) (Nat.le_of_ble_eq_true rfl) [some (.ref (b + 215)), some (.int x1), none, none, none, none, none] rfl ?_
  intro p e R s m args below meth c X0 hnm hRc hRs
  have X : j_X p R s m args meth c g b 2 jb_M_parse 7 "PleasureGardenModel" (some .int) := X0
  clear X0
  refine j_aload_n X jd_M_parse_0 rfl rfl ?_
  refine j_iconst (v := 0) X jd_M_parse_1 (by decide) ?_
  refine j_puti X jt_M jto_M jn_M jf_M_288 jk_12_62 js_215 (j_lt rfl hn) (Or.inl rfl) rfl jd_M_parse_2 ?_
  refine j_mem h (fun I28 h => ?_)
  refine j_aload_n X jd_M_parse_5 rfl rfl ?_
  refine j_iconst (v := 0) X jd_M_parse_6 (by decide) ?_
  refine j_puti X jt_M jto_M jn_M jf_M_279 jk_12_60 js_215 (j_lt rfl hn) (Or.inl rfl) rfl jd_M_parse_7 ?_
  refine j_mem h (fun I29 h => ?_)
  refine j_aload_n X jd_M_parse_10 rfl rfl ?_
  refine j_iconst (v := 0) X jd_M_parse_11 (by decide) ?_
  refine j_puti X jt_M jto_M jn_M jf_M_276 jk_12_61 js_215 (j_lt rfl hn) (Or.inl rfl) rfl jd_M_parse_12 ?_
  refine j_mem h (fun I30 h => ?_)
  refine j_iconst (v := 1) X jd_M_parse_15 (by decide) ?_
  refine j_istore_n (lv' := [some (.ref (b + 215)), some (.int x1), some (.int 1), none, none, none, none]) X jd_M_parse_16 rfl (by decide) rfl ?_
  refine j_iconst (v := 0) X jd_M_parse_17 (by decide) ?_
  refine j_istore_n (lv' := [some (.ref (b + 215)), some (.int x1), some (.int 1), some (.int 0), none, none, none]) X jd_M_parse_18 rfl (by decide) rfl ?_
  exact k_M_parse_19 hF hn X h
-- PleasureGardenModel.inForce(III)I
theorem jd_M_inForce_0 : decode jb_M_inForce 0 = .ok (.iload_n 1, 1) := by decide +kernel
theorem jd_M_inForce_1 : decode jb_M_inForce 1 = .ok (.iconst 0, 1) := by decide +kernel
theorem jd_M_inForce_2 : decode jb_M_inForce 2 = .ok (.iconst 2, 1) := by decide +kernel
theorem jd_M_inForce_3 : decode jb_M_inForce 3 = .ok (.invokestatic 158, 3) := by decide +kernel
theorem jd_M_inForce_6 : decode jb_M_inForce 6 = .ok (.ifCond .eq 27, 3) := by decide +kernel
theorem jd_M_inForce_9 : decode jb_M_inForce 9 = .ok (.iload_n 2, 1) := by decide +kernel
theorem jd_M_inForce_10 : decode jb_M_inForce 10 = .ok (.invokestatic 307, 3) := by decide +kernel
theorem jd_M_inForce_13 : decode jb_M_inForce 13 = .ok (.ifCond .eq 20, 3) := by decide +kernel
theorem jd_M_inForce_16 : decode jb_M_inForce 16 = .ok (.iload_n 3, 1) := by decide +kernel
theorem jd_M_inForce_17 : decode jb_M_inForce 17 = .ok (.invokestatic 307, 3) := by decide +kernel
theorem jd_M_inForce_20 : decode jb_M_inForce 20 = .ok (.ifCond .eq 13, 3) := by decide +kernel
theorem jd_M_inForce_23 : decode jb_M_inForce 23 = .ok (.aload_n 0, 1) := by decide +kernel
theorem jd_M_inForce_24 : decode jb_M_inForce 24 = .ok (.iload_n 1, 1) := by decide +kernel
theorem jd_M_inForce_25 : decode jb_M_inForce 25 = .ok (.iload_n 2, 1) := by decide +kernel
theorem jd_M_inForce_26 : decode jb_M_inForce 26 = .ok (.iload_n 3, 1) := by decide +kernel
theorem jd_M_inForce_27 : decode jb_M_inForce 27 = .ok (.invokevirtual 319, 3) := by decide +kernel
theorem jd_M_inForce_30 : decode jb_M_inForce 30 = .ok (.goto 4, 3) := by decide +kernel
theorem jd_M_inForce_33 : decode jb_M_inForce 33 = .ok (.iconst (-1), 1) := by decide +kernel
theorem jd_M_inForce_34 : decode jb_M_inForce 34 = .ok (.ireturn, 1) := by decide +kernel
def f_M_inForce (F : Nat) (x1 : Int32) (x2 : Int32) (x3 : Int32) (I : j_M) : Option (Int32 × j_M) := j_bd (f_M_among F x1 0 2 I) (fun v1 I2 => (if v1 = 0 then some ((-1), I2) else j_bd (f_M_isNight F x2 I2) (fun v3 I4 => (if v3 = 0 then some ((-1), I4) else j_bd (f_M_isNight F x3 I4) (fun v5 I6 => (if v5 = 0 then some ((-1), I6) else j_bd (f_M_forceOn F x1 x2 x3 I6) (fun v7 I8 => some (v7, I8))))))))
set_option maxRecDepth 100000 in
set_option maxHeartbeats 4000000 in
theorem k_M_inForce {l : Launch} {g : j_G} {b n : Nat} {P : j_R} {F : Nat} (hF : j_Fx 0 260 P) (hn : 260 ≤ n) {x1 : Int32} {x2 : Int32} {x3 : Int32} {I : j_M} {r : Int32 × j_M}  (h : f_M_inForce F x1 x2 x3 I = some r) : j_Met l g b n P 2 jy_M_inForce jb_M_inForce 4 (some .int) [.ref (b + 215), .int x1, .int x2, .int x3] I r.2 (some (.int r.1)) := by
  unfold f_M_inForce at h
  refine j_enter (plainFor_of_name (by decide)) (Nat.le_of_ble_eq_true rfl) [some (.ref (b + 215)), some (.int x1), some (.int x2), some (.int x3)] rfl ?_
  intro p e R s m args below meth c X0 hnm hRc hRs
  have X : j_X p R s m args meth c g b 2 jb_M_inForce 4 "PleasureGardenModel" (some .int) := X0
  clear X0
  refine j_iload_n X jd_M_inForce_0 rfl rfl ?_
  refine j_iconst (v := 0) X jd_M_inForce_1 (by decide) ?_
  refine j_iconst (v := 2) X jd_M_inForce_2 (by decide) ?_
  refine j_callSi (As := [.int x1, .int 0, .int 2]) (st := []) X h ⟨jqc_M_among, jqs_M_among, jqn_M⟩ jlm_M_158 jh_M_among.2 rfl (by decide) (by decide) (Nat.le_of_ble_eq_true rfl) ⟨Nat.zero_le _, Nat.zero_le _⟩ (fun v0 I0 h => k_M_among (r := (v0, I0)) hF hn h) jd_M_inForce_3 rfl (fun v1 I2 h => ?_)
  refine j_if_eq (tgt := 33) X jd_M_inForce_6 rfl h (fun h => ?_) (fun h => ?_)
  · refine j_iconst (v := (-1)) X jd_M_inForce_33 (by decide) ?_
    exact j_iret X rfl jd_M_inForce_34 h
  · refine j_iload_n X jd_M_inForce_9 rfl rfl ?_
    refine j_callSi (As := [.int x2]) (st := []) X h ⟨jqc_M_isNight, jqs_M_isNight, jqn_M⟩ jlm_M_307 jh_M_isNight.2 rfl (by decide) (by decide) (Nat.le_of_ble_eq_true rfl) ⟨Nat.zero_le _, Nat.zero_le _⟩ (fun v0 I0 h => k_M_isNight (r := (v0, I0)) hF hn h) jd_M_inForce_10 rfl (fun v3 I4 h => ?_)
    refine j_if_eq (tgt := 33) X jd_M_inForce_13 rfl h (fun h => ?_) (fun h => ?_)
    · refine j_iconst (v := (-1)) X jd_M_inForce_33 (by decide) ?_
      exact j_iret X rfl jd_M_inForce_34 h
    · refine j_iload_n X jd_M_inForce_16 rfl rfl ?_
      refine j_callSi (As := [.int x3]) (st := []) X h ⟨jqc_M_isNight, jqs_M_isNight, jqn_M⟩ jlm_M_307 jh_M_isNight.2 rfl (by decide) (by decide) (Nat.le_of_ble_eq_true rfl) ⟨Nat.zero_le _, Nat.zero_le _⟩ (fun v0 I0 h => k_M_isNight (r := (v0, I0)) hF hn h) jd_M_inForce_17 rfl (fun v5 I6 h => ?_)
      refine j_if_eq (tgt := 33) X jd_M_inForce_20 rfl h (fun h => ?_) (fun h => ?_)
      · refine j_iconst (v := (-1)) X jd_M_inForce_33 (by decide) ?_
        exact j_iret X rfl jd_M_inForce_34 h
      · refine j_aload_n X jd_M_inForce_23 rfl rfl ?_
        refine j_iload_n X jd_M_inForce_24 rfl rfl ?_
        refine j_iload_n X jd_M_inForce_25 rfl rfl ?_
        refine j_iload_n X jd_M_inForce_26 rfl rfl ?_
        refine j_callVi (As := [.int x1, .int x2, .int x3]) (st := []) (c0 := 215) X h jc_M js_215 (j_lt rfl hn) ⟨jqc_M_forceOn, jqi_M_forceOn, jqv_M_forceOn, jqn_M⟩ jlm_M_319 jh_M_forceOn rfl (by decide) (by decide) (Nat.le_of_ble_eq_true rfl) ⟨Nat.zero_le _, Nat.zero_le _⟩ (fun v0 I0 h => k_M_forceOn (r := (v0, I0)) hF hn h) jd_M_inForce_27 rfl (fun v7 I8 h => ?_)
        refine j_goto (tgt := 34) X jd_M_inForce_30 rfl ?_
        exact j_iret X rfl jd_M_inForce_34 h
-- PleasureGardenModel.coinsBy(III)I
theorem jd_M_coinsBy_0 : decode jb_M_coinsBy 0 = .ok (.aload_n 0, 1) := by decide +kernel
theorem jd_M_coinsBy_1 : decode jb_M_coinsBy 1 = .ok (.getfield 131, 3) := by decide +kernel
theorem jd_M_coinsBy_4 : decode jb_M_coinsBy 4 = .ok (.bipush 112, 2) := by decide +kernel
theorem jd_M_coinsBy_6 : decode jb_M_coinsBy 6 = .ok (.aload_n 0, 1) := by decide +kernel
theorem jd_M_coinsBy_7 : decode jb_M_coinsBy 7 = .ok (.getfield 32, 3) := by decide +kernel
theorem jd_M_coinsBy_10 : decode jb_M_coinsBy 10 = .ok (.iload_n 2, 1) := by decide +kernel
theorem jd_M_coinsBy_11 : decode jb_M_coinsBy 11 = .ok (.iaload, 1) := by decide +kernel
theorem jd_M_coinsBy_12 : decode jb_M_coinsBy 12 = .ok (.iastore, 1) := by decide +kernel
theorem jd_M_coinsBy_13 : decode jb_M_coinsBy 13 = .ok (.aload_n 0, 1) := by decide +kernel
theorem jd_M_coinsBy_14 : decode jb_M_coinsBy 14 = .ok (.getfield 131, 3) := by decide +kernel
theorem jd_M_coinsBy_17 : decode jb_M_coinsBy 17 = .ok (.bipush 109, 2) := by decide +kernel
theorem jd_M_coinsBy_19 : decode jb_M_coinsBy 19 = .ok (.aload_n 0, 1) := by decide +kernel
theorem jd_M_coinsBy_20 : decode jb_M_coinsBy 20 = .ok (.getfield 171, 3) := by decide +kernel
theorem jd_M_coinsBy_23 : decode jb_M_coinsBy 23 = .ok (.iastore, 1) := by decide +kernel
theorem jd_M_coinsBy_24 : decode jb_M_coinsBy 24 = .ok (.aload_n 0, 1) := by decide +kernel
theorem jd_M_coinsBy_25 : decode jb_M_coinsBy 25 = .ok (.getfield 131, 3) := by decide +kernel
theorem jd_M_coinsBy_28 : decode jb_M_coinsBy 28 = .ok (.bipush 114, 2) := by decide +kernel
theorem jd_M_coinsBy_30 : decode jb_M_coinsBy 30 = .ok (.aload_n 0, 1) := by decide +kernel
theorem jd_M_coinsBy_31 : decode jb_M_coinsBy 31 = .ok (.aload_n 0, 1) := by decide +kernel
theorem jd_M_coinsBy_32 : decode jb_M_coinsBy 32 = .ok (.getfield 171, 3) := by decide +kernel
theorem jd_M_coinsBy_35 : decode jb_M_coinsBy 35 = .ok (.invokevirtual 177, 3) := by decide +kernel
theorem jd_M_coinsBy_38 : decode jb_M_coinsBy 38 = .ok (.ifCond .eq 7, 3) := by decide +kernel
theorem jd_M_coinsBy_41 : decode jb_M_coinsBy 41 = .ok (.iconst 1, 1) := by decide +kernel
theorem jd_M_coinsBy_42 : decode jb_M_coinsBy 42 = .ok (.goto 4, 3) := by decide +kernel
theorem jd_M_coinsBy_45 : decode jb_M_coinsBy 45 = .ok (.iconst 0, 1) := by decide +kernel
theorem jd_M_coinsBy_46 : decode jb_M_coinsBy 46 = .ok (.iastore, 1) := by decide +kernel
theorem jd_M_coinsBy_47 : decode jb_M_coinsBy 47 = .ok (.aload_n 0, 1) := by decide +kernel
theorem jd_M_coinsBy_48 : decode jb_M_coinsBy 48 = .ok (.getfield 131, 3) := by decide +kernel
theorem jd_M_coinsBy_51 : decode jb_M_coinsBy 51 = .ok (.bipush 110, 2) := by decide +kernel
theorem jd_M_coinsBy_53 : decode jb_M_coinsBy 53 = .ok (.aload_n 0, 1) := by decide +kernel
theorem jd_M_coinsBy_54 : decode jb_M_coinsBy 54 = .ok (.getfield 316, 3) := by decide +kernel
theorem jd_M_coinsBy_57 : decode jb_M_coinsBy 57 = .ok (.iastore, 1) := by decide +kernel
theorem jd_M_coinsBy_58 : decode jb_M_coinsBy 58 = .ok (.aload_n 0, 1) := by decide +kernel
theorem jd_M_coinsBy_59 : decode jb_M_coinsBy 59 = .ok (.getfield 131, 3) := by decide +kernel
theorem jd_M_coinsBy_62 : decode jb_M_coinsBy 62 = .ok (.bipush 103, 2) := by decide +kernel
theorem jd_M_coinsBy_64 : decode jb_M_coinsBy 64 = .ok (.aload_n 0, 1) := by decide +kernel
theorem jd_M_coinsBy_65 : decode jb_M_coinsBy 65 = .ok (.aload_n 0, 1) := by decide +kernel
theorem jd_M_coinsBy_66 : decode jb_M_coinsBy 66 = .ok (.getfield 59, 3) := by decide +kernel
theorem jd_M_coinsBy_69 : decode jb_M_coinsBy 69 = .ok (.iload_n 2, 1) := by decide +kernel
theorem jd_M_coinsBy_70 : decode jb_M_coinsBy 70 = .ok (.iaload, 1) := by decide +kernel
theorem jd_M_coinsBy_71 : decode jb_M_coinsBy 71 = .ok (.invokevirtual 325, 3) := by decide +kernel
theorem jd_M_coinsBy_74 : decode jb_M_coinsBy 74 = .ok (.iastore, 1) := by decide +kernel
theorem jd_M_coinsBy_75 : decode jb_M_coinsBy 75 = .ok (.aload_n 0, 1) := by decide +kernel
theorem jd_M_coinsBy_76 : decode jb_M_coinsBy 76 = .ok (.getfield 131, 3) := by decide +kernel
theorem jd_M_coinsBy_79 : decode jb_M_coinsBy 79 = .ok (.bipush 115, 2) := by decide +kernel
theorem jd_M_coinsBy_81 : decode jb_M_coinsBy 81 = .ok (.iload_n 3, 1) := by decide +kernel
theorem jd_M_coinsBy_82 : decode jb_M_coinsBy 82 = .ok (.iastore, 1) := by decide +kernel
theorem jd_M_coinsBy_83 : decode jb_M_coinsBy 83 = .ok (.aload_n 0, 1) := by decide +kernel
theorem jd_M_coinsBy_84 : decode jb_M_coinsBy 84 = .ok (.getfield 131, 3) := by decide +kernel
theorem jd_M_coinsBy_87 : decode jb_M_coinsBy 87 = .ok (.bipush 99, 2) := by decide +kernel
theorem jd_M_coinsBy_89 : decode jb_M_coinsBy 89 = .ok (.aload_n 0, 1) := by decide +kernel
theorem jd_M_coinsBy_90 : decode jb_M_coinsBy 90 = .ok (.invokevirtual 328, 3) := by decide +kernel
theorem jd_M_coinsBy_93 : decode jb_M_coinsBy 93 = .ok (.iastore, 1) := by decide +kernel
theorem jd_M_coinsBy_94 : decode jb_M_coinsBy 94 = .ok (.aload_n 0, 1) := by decide +kernel
theorem jd_M_coinsBy_95 : decode jb_M_coinsBy 95 = .ok (.getfield 131, 3) := by decide +kernel
theorem jd_M_coinsBy_98 : decode jb_M_coinsBy 98 = .ok (.bipush 116, 2) := by decide +kernel
theorem jd_M_coinsBy_100 : decode jb_M_coinsBy 100 = .ok (.aload_n 0, 1) := by decide +kernel
theorem jd_M_coinsBy_101 : decode jb_M_coinsBy 101 = .ok (.getfield 171, 3) := by decide +kernel
theorem jd_M_coinsBy_104 : decode jb_M_coinsBy 104 = .ok (.aload_n 0, 1) := by decide +kernel
theorem jd_M_coinsBy_105 : decode jb_M_coinsBy 105 = .ok (.getfield 59, 3) := by decide +kernel
theorem jd_M_coinsBy_108 : decode jb_M_coinsBy 108 = .ok (.iload_n 2, 1) := by decide +kernel
theorem jd_M_coinsBy_109 : decode jb_M_coinsBy 109 = .ok (.iaload, 1) := by decide +kernel
theorem jd_M_coinsBy_110 : decode jb_M_coinsBy 110 = .ok (.isub, 1) := by decide +kernel
theorem jd_M_coinsBy_111 : decode jb_M_coinsBy 111 = .ok (.iastore, 1) := by decide +kernel
theorem jd_M_coinsBy_112 : decode jb_M_coinsBy 112 = .ok (.aload_n 0, 1) := by decide +kernel
theorem jd_M_coinsBy_113 : decode jb_M_coinsBy 113 = .ok (.iload_n 1, 1) := by decide +kernel
theorem jd_M_coinsBy_114 : decode jb_M_coinsBy 114 = .ok (.invokevirtual 331, 3) := by decide +kernel
theorem jd_M_coinsBy_117 : decode jb_M_coinsBy 117 = .ok (.istore 4, 2) := by decide +kernel
theorem jd_M_coinsBy_119 : decode jb_M_coinsBy 119 = .ok (.iload 4, 2) := by decide +kernel
theorem jd_M_coinsBy_121 : decode jb_M_coinsBy 121 = .ok (.ifCond .ge 7, 3) := by decide +kernel
theorem jd_M_coinsBy_124 : decode jb_M_coinsBy 124 = .ok (.iconst 0, 1) := by decide +kernel
theorem jd_M_coinsBy_125 : decode jb_M_coinsBy 125 = .ok (.goto 19, 3) := by decide +kernel
theorem jd_M_coinsBy_128 : decode jb_M_coinsBy 128 = .ok (.iload 4, 2) := by decide +kernel
theorem jd_M_coinsBy_130 : decode jb_M_coinsBy 130 = .ok (.ldc_w 334, 3) := by decide +kernel
theorem jd_M_coinsBy_133 : decode jb_M_coinsBy 133 = .ok (.if_icmp .le 9, 3) := by decide +kernel
theorem jd_M_coinsBy_136 : decode jb_M_coinsBy 136 = .ok (.ldc_w 334, 3) := by decide +kernel
theorem jd_M_coinsBy_139 : decode jb_M_coinsBy 139 = .ok (.goto 5, 3) := by decide +kernel
theorem jd_M_coinsBy_142 : decode jb_M_coinsBy 142 = .ok (.iload 4, 2) := by decide +kernel
theorem jd_M_coinsBy_144 : decode jb_M_coinsBy 144 = .ok (.ireturn, 1) := by decide +kernel
def f_M_coinsBy_46 (F : Nat)  (x1 : Int32) (x2 : Int32) (x3 : Int32) (s1 : Int32) (s2 : Int32) (I : j_M) : Option (Int32 × j_M) := (if j_ok s1 128 = true then j_let (j_wr I 253 (j_ix s1) s2) (fun I1 => (if j_ok 110 128 = true then j_let (j_wr I1 253 (j_ix 110) (I1 215 1)) (fun I2 => (if j_ok x2 100 = true then j_bd (f_M_rainSince F (I2 232 (j_ix x2)) I2) (fun v3 I4 => (if j_ok 103 128 = true then j_let (j_wr I4 253 (j_ix 103) v3) (fun I5 => (if j_ok 115 128 = true then j_let (j_wr I5 253 (j_ix 115) x3) (fun I6 => j_bd (f_M_headsIn F I6) (fun v7 I8 => (if j_ok 99 128 = true then j_let (j_wr I8 253 (j_ix 99) v7) (fun I9 => (if j_ok x2 100 = true then (if j_ok 116 128 = true then j_let (j_wr I9 253 (j_ix 116) ((I9 215 2) - (I9 232 (j_ix x2)))) (fun I10 => j_bd (f_M_says F x1 I10) (fun v11 I12 => (if 0 ≤ v11 then (if v11 ≤ 100000 then some (v11, I12) else some (100000, I12)) else some (0, I12)))) else none) else none)) else none))) else none)) else none)) else none)) else none)) else none)
def f_M_coinsBy (F : Nat) (x1 : Int32) (x2 : Int32) (x3 : Int32) (I : j_M) : Option (Int32 × j_M) := (if j_ok x2 100 = true then (if j_ok 112 128 = true then j_let (j_wr I 253 (j_ix 112) (I 223 (j_ix x2))) (fun I13 => (if j_ok 109 128 = true then j_let (j_wr I13 253 (j_ix 109) (I13 215 2)) (fun I14 => j_bd (f_M_rainsIn F (I14 215 2) I14) (fun v15 I16 => (if v15 = 0 then f_M_coinsBy_46 F x1 x2 x3 114 0 I16 else f_M_coinsBy_46 F x1 x2 x3 114 1 I16))) else none)) else none) else none)
set_option maxRecDepth 100000 in
set_option maxHeartbeats 4000000 in
theorem k_M_coinsBy_46 {p : Program} {l : Launch} {e : Env} {R : Room} {s : State} {m : MethodId} {args : Array Value} {below : List Frame} {meth : Method} {c : Code} {g : j_G} {b n : Nat} {P : j_R} {F : Nat} (hF : j_Fx 0 260 P) (hn : 260 ≤ n) (X : j_X p R s m args meth c g b 2 jb_M_coinsBy 5 "PleasureGardenModel" (some .int))  {x1 : Int32} {x2 : Int32} {x3 : Int32} {s1 : Int32} {s2 : Int32} {I : j_M} {r : Int32 × j_M}  (h : f_M_coinsBy_46 F x1 x2 x3 s1 s2 I = some r) : j_W p l e R s m args below meth c 5 g b n 0 0 (j_Qi g b n P below args s r) I P 46 [some (.ref (b + 215)), some (.int x1), some (.int x2), some (.int x3), none] [.int s2, .int s1, .ref (b + 253)] := by
  unfold f_M_coinsBy_46 at h
  refine j_iast X js_253 (j_lt rfl hn) jd_M_coinsBy_46 h (fun h => ?_)
  refine j_mem h (fun I1 h => ?_)
  refine j_aload_n X jd_M_coinsBy_47 rfl rfl ?_
  refine j_getr X jf_M_131 jk_12_63 js_215 (j_lt rfl hn) (jp_215_63 hF) jd_M_coinsBy_48 ?_
  refine j_bipush (v := 110) X jd_M_coinsBy_51 (by decide) ?_
  refine j_aload_n X jd_M_coinsBy_53 rfl rfl ?_
  refine j_get X jf_M_316 jk_12_1 js_215 (j_lt rfl hn) jd_M_coinsBy_54 ?_
  refine j_iast X js_253 (j_lt rfl hn) jd_M_coinsBy_57 h (fun h => ?_)
  refine j_mem h (fun I2 h => ?_)
  refine j_aload_n X jd_M_coinsBy_58 rfl rfl ?_
  refine j_getr X jf_M_131 jk_12_63 js_215 (j_lt rfl hn) (jp_215_63 hF) jd_M_coinsBy_59 ?_
  refine j_bipush (v := 103) X jd_M_coinsBy_62 (by decide) ?_
  refine j_aload_n X jd_M_coinsBy_64 rfl rfl ?_
  refine j_aload_n X jd_M_coinsBy_65 rfl rfl ?_
  refine j_getr X jf_M_59 jk_12_22 js_215 (j_lt rfl hn) (jp_215_22 hF) jd_M_coinsBy_66 ?_
  refine j_iload_n X jd_M_coinsBy_69 rfl rfl ?_
  refine j_iald X js_232 (j_lt rfl hn) jd_M_coinsBy_70 h (fun _ h => ?_)
  refine j_callVi (As := [.int (I2 232 (j_ix x2))]) (st := [.int 103, .ref (b + 253)]) (c0 := 215) X h jc_M js_215 (j_lt rfl hn) ⟨jqc_M_rainSince, jqi_M_rainSince, jqv_M_rainSince, jqn_M⟩ jlm_M_325 jh_M_rainSince rfl (by decide) (by decide) (Nat.le_of_ble_eq_true rfl) ⟨Nat.zero_le _, Nat.zero_le _⟩ (fun v0 I0 h => k_M_rainSince (r := (v0, I0)) hF hn h) jd_M_coinsBy_71 rfl (fun v3 I4 h => ?_)
  refine j_iast X js_253 (j_lt rfl hn) jd_M_coinsBy_74 h (fun h => ?_)
  refine j_mem h (fun I5 h => ?_)
  refine j_aload_n X jd_M_coinsBy_75 rfl rfl ?_
  refine j_getr X jf_M_131 jk_12_63 js_215 (j_lt rfl hn) (jp_215_63 hF) jd_M_coinsBy_76 ?_
  refine j_bipush (v := 115) X jd_M_coinsBy_79 (by decide) ?_
  refine j_iload_n X jd_M_coinsBy_81 rfl rfl ?_
  refine j_iast X js_253 (j_lt rfl hn) jd_M_coinsBy_82 h (fun h => ?_)
  refine j_mem h (fun I6 h => ?_)
  refine j_aload_n X jd_M_coinsBy_83 rfl rfl ?_
  refine j_getr X jf_M_131 jk_12_63 js_215 (j_lt rfl hn) (jp_215_63 hF) jd_M_coinsBy_84 ?_
  refine j_bipush (v := 99) X jd_M_coinsBy_87 (by decide) ?_
  refine j_aload_n X jd_M_coinsBy_89 rfl rfl ?_
  refine j_callVi (As := []) (st := [.int 99, .ref (b + 253)]) (c0 := 215) X h jc_M js_215 (j_lt rfl hn) ⟨jqc_M_headsIn, jqi_M_headsIn, jqv_M_headsIn, jqn_M⟩ jlm_M_328 jh_M_headsIn rfl (by decide) (by decide) (Nat.le_of_ble_eq_true rfl) ⟨Nat.zero_le _, Nat.zero_le _⟩ (fun v0 I0 h => k_M_headsIn (r := (v0, I0)) hF hn h) jd_M_coinsBy_90 rfl (fun v7 I8 h => ?_)
  refine j_iast X js_253 (j_lt rfl hn) jd_M_coinsBy_93 h (fun h => ?_)
  refine j_mem h (fun I9 h => ?_)
  refine j_aload_n X jd_M_coinsBy_94 rfl rfl ?_
  refine j_getr X jf_M_131 jk_12_63 js_215 (j_lt rfl hn) (jp_215_63 hF) jd_M_coinsBy_95 ?_
  refine j_bipush (v := 116) X jd_M_coinsBy_98 (by decide) ?_
  refine j_aload_n X jd_M_coinsBy_100 rfl rfl ?_
  refine j_get X jf_M_171 jk_12_2 js_215 (j_lt rfl hn) jd_M_coinsBy_101 ?_
  refine j_aload_n X jd_M_coinsBy_104 rfl rfl ?_
  refine j_getr X jf_M_59 jk_12_22 js_215 (j_lt rfl hn) (jp_215_22 hF) jd_M_coinsBy_105 ?_
  refine j_iload_n X jd_M_coinsBy_108 rfl rfl ?_
  refine j_iald X js_232 (j_lt rfl hn) jd_M_coinsBy_109 h (fun _ h => ?_)
  refine j_isub X jd_M_coinsBy_110 ?_
  refine j_iast X js_253 (j_lt rfl hn) jd_M_coinsBy_111 h (fun h => ?_)
  refine j_mem h (fun I10 h => ?_)
  refine j_aload_n X jd_M_coinsBy_112 rfl rfl ?_
  refine j_iload_n X jd_M_coinsBy_113 rfl rfl ?_
  refine j_callVi (As := [.int x1]) (st := []) (c0 := 215) X h jc_M js_215 (j_lt rfl hn) ⟨jqc_M_says, jqi_M_says, jqv_M_says, jqn_M⟩ jlm_M_331 jh_M_says rfl (by decide) (by decide) (Nat.le_of_ble_eq_true rfl) ⟨Nat.zero_le _, Nat.zero_le _⟩ (fun v0 I0 h => k_M_says (r := (v0, I0)) hF hn h) jd_M_coinsBy_114 rfl (fun v11 I12 h => ?_)
  refine j_istore (lv' := [some (.ref (b + 215)), some (.int x1), some (.int x2), some (.int x3), some (.int v11)]) X jd_M_coinsBy_117 (by decide) rfl ?_
  refine j_iload X jd_M_coinsBy_119 rfl ?_
  refine j_if_ge (tgt := 128) X jd_M_coinsBy_121 rfl h (fun h => ?_) (fun h => ?_)
  · refine j_iload X jd_M_coinsBy_128 rfl ?_
    refine j_ldcw (v := 100000) X jlc_M_334 jd_M_coinsBy_130 ?_
    refine j_icmp_le (tgt := 142) X jd_M_coinsBy_133 rfl h (fun h => ?_) (fun h => ?_)
    · refine j_iload X jd_M_coinsBy_142 rfl ?_
      exact j_iret X rfl jd_M_coinsBy_144 h
    · refine j_ldcw (v := 100000) X jlc_M_334 jd_M_coinsBy_136 ?_
      refine j_goto (tgt := 144) X jd_M_coinsBy_139 rfl ?_
      exact j_iret X rfl jd_M_coinsBy_144 h
  · refine j_iconst (v := 0) X jd_M_coinsBy_124 (by decide) ?_
    refine j_goto (tgt := 144) X jd_M_coinsBy_125 rfl ?_
    exact j_iret X rfl jd_M_coinsBy_144 h
set_option maxRecDepth 100000 in
set_option maxHeartbeats 4000000 in
theorem k_M_coinsBy {l : Launch} {g : j_G} {b n : Nat} {P : j_R} {F : Nat} (hF : j_Fx 0 260 P) (hn : 260 ≤ n) {x1 : Int32} {x2 : Int32} {x3 : Int32} {I : j_M} {r : Int32 × j_M}  (h : f_M_coinsBy F x1 x2 x3 I = some r) : j_Met l g b n P 2 jy_M_coinsBy jb_M_coinsBy 5 (some .int) [.ref (b + 215), .int x1, .int x2, .int x3] I r.2 (some (.int r.1)) := by
  unfold f_M_coinsBy at h
  refine j_enter (plainFor_of_name (by decide)) (Nat.le_of_ble_eq_true rfl) [some (.ref (b + 215)), some (.int x1), some (.int x2), some (.int x3), none] rfl ?_
  intro p e R s m args below meth c X0 hnm hRc hRs
  have X : j_X p R s m args meth c g b 2 jb_M_coinsBy 5 "PleasureGardenModel" (some .int) := X0
  clear X0
  refine j_aload_n X jd_M_coinsBy_0 rfl rfl ?_
  refine j_getr X jf_M_131 jk_12_63 js_215 (j_lt rfl hn) (jp_215_63 hF) jd_M_coinsBy_1 ?_
  refine j_bipush (v := 112) X jd_M_coinsBy_4 (by decide) ?_
  refine j_aload_n X jd_M_coinsBy_6 rfl rfl ?_
  refine j_getr X jf_M_32 jk_12_13 js_215 (j_lt rfl hn) (jp_215_13 hF) jd_M_coinsBy_7 ?_
  refine j_iload_n X jd_M_coinsBy_10 rfl rfl ?_
  refine j_iald X js_223 (j_lt rfl hn) jd_M_coinsBy_11 h (fun _ h => ?_)
  refine j_iast X js_253 (j_lt rfl hn) jd_M_coinsBy_12 h (fun h => ?_)
  refine j_mem h (fun I13 h => ?_)
  refine j_aload_n X jd_M_coinsBy_13 rfl rfl ?_
  refine j_getr X jf_M_131 jk_12_63 js_215 (j_lt rfl hn) (jp_215_63 hF) jd_M_coinsBy_14 ?_
  refine j_bipush (v := 109) X jd_M_coinsBy_17 (by decide) ?_
  refine j_aload_n X jd_M_coinsBy_19 rfl rfl ?_
  refine j_get X jf_M_171 jk_12_2 js_215 (j_lt rfl hn) jd_M_coinsBy_20 ?_
  refine j_iast X js_253 (j_lt rfl hn) jd_M_coinsBy_23 h (fun h => ?_)
  refine j_mem h (fun I14 h => ?_)
  refine j_aload_n X jd_M_coinsBy_24 rfl rfl ?_
  refine j_getr X jf_M_131 jk_12_63 js_215 (j_lt rfl hn) (jp_215_63 hF) jd_M_coinsBy_25 ?_
  refine j_bipush (v := 114) X jd_M_coinsBy_28 (by decide) ?_
  refine j_aload_n X jd_M_coinsBy_30 rfl rfl ?_
  refine j_aload_n X jd_M_coinsBy_31 rfl rfl ?_
  refine j_get X jf_M_171 jk_12_2 js_215 (j_lt rfl hn) jd_M_coinsBy_32 ?_
  refine j_callVi (As := [.int (I14 215 2)]) (st := [.int 114, .ref (b + 253)]) (c0 := 215) X h jc_M js_215 (j_lt rfl hn) ⟨jqc_M_rainsIn, jqi_M_rainsIn, jqv_M_rainsIn, jqn_M⟩ jlm_M_177 jh_M_rainsIn rfl (by decide) (by decide) (Nat.le_of_ble_eq_true rfl) ⟨Nat.zero_le _, Nat.zero_le _⟩ (fun v0 I0 h => k_M_rainsIn (r := (v0, I0)) hF hn h) jd_M_coinsBy_35 rfl (fun v15 I16 h => ?_)
  refine j_if_eq (tgt := 45) X jd_M_coinsBy_38 rfl h (fun h => ?_) (fun h => ?_)
  · refine j_iconst (v := 0) X jd_M_coinsBy_45 (by decide) ?_
    exact k_M_coinsBy_46 hF hn X h
  · refine j_iconst (v := 1) X jd_M_coinsBy_41 (by decide) ?_
    refine j_goto (tgt := 46) X jd_M_coinsBy_42 rfl ?_
    exact k_M_coinsBy_46 hF hn X h
-- PleasureGardenModel.stolen(II)I
theorem jd_M_stolen_0 : decode jb_M_stolen 0 = .ok (.iload_n 1, 1) := by decide +kernel
theorem jd_M_stolen_1 : decode jb_M_stolen 1 = .ok (.iconst 0, 1) := by decide +kernel
theorem jd_M_stolen_2 : decode jb_M_stolen 2 = .ok (.aload_n 0, 1) := by decide +kernel
theorem jd_M_stolen_3 : decode jb_M_stolen 3 = .ok (.getfield 171, 3) := by decide +kernel
theorem jd_M_stolen_6 : decode jb_M_stolen 6 = .ok (.invokestatic 158, 3) := by decide +kernel
theorem jd_M_stolen_9 : decode jb_M_stolen 9 = .ok (.ifCond .eq 11, 3) := by decide +kernel
theorem jd_M_stolen_12 : decode jb_M_stolen 12 = .ok (.aload_n 0, 1) := by decide +kernel
theorem jd_M_stolen_13 : decode jb_M_stolen 13 = .ok (.iload_n 2, 1) := by decide +kernel
theorem jd_M_stolen_14 : decode jb_M_stolen 14 = .ok (.invokevirtual 162, 3) := by decide +kernel
theorem jd_M_stolen_17 : decode jb_M_stolen 17 = .ok (.ifCond .ne 5, 3) := by decide +kernel
theorem jd_M_stolen_20 : decode jb_M_stolen 20 = .ok (.iconst (-1), 1) := by decide +kernel
theorem jd_M_stolen_21 : decode jb_M_stolen 21 = .ok (.ireturn, 1) := by decide +kernel
theorem jd_M_stolen_22 : decode jb_M_stolen 22 = .ok (.aload_n 0, 1) := by decide +kernel
theorem jd_M_stolen_23 : decode jb_M_stolen 23 = .ok (.getfield 339, 3) := by decide +kernel
theorem jd_M_stolen_26 : decode jb_M_stolen 26 = .ok (.bipush 20, 2) := by decide +kernel
theorem jd_M_stolen_28 : decode jb_M_stolen 28 = .ok (.if_icmp .ne 6, 3) := by decide +kernel
theorem jd_M_stolen_31 : decode jb_M_stolen 31 = .ok (.bipush (-3), 2) := by decide +kernel
theorem jd_M_stolen_33 : decode jb_M_stolen 33 = .ok (.ireturn, 1) := by decide +kernel
theorem jd_M_stolen_34 : decode jb_M_stolen 34 = .ok (.aload_n 0, 1) := by decide +kernel
theorem jd_M_stolen_35 : decode jb_M_stolen 35 = .ok (.getfield 146, 3) := by decide +kernel
theorem jd_M_stolen_38 : decode jb_M_stolen 38 = .ok (.aload_n 0, 1) := by decide +kernel
theorem jd_M_stolen_39 : decode jb_M_stolen 39 = .ok (.getfield 339, 3) := by decide +kernel
theorem jd_M_stolen_42 : decode jb_M_stolen 42 = .ok (.iload_n 1, 1) := by decide +kernel
theorem jd_M_stolen_43 : decode jb_M_stolen 43 = .ok (.iastore, 1) := by decide +kernel
theorem jd_M_stolen_44 : decode jb_M_stolen 44 = .ok (.aload_n 0, 1) := by decide +kernel
theorem jd_M_stolen_45 : decode jb_M_stolen 45 = .ok (.getfield 149, 3) := by decide +kernel
theorem jd_M_stolen_48 : decode jb_M_stolen 48 = .ok (.aload_n 0, 1) := by decide +kernel
theorem jd_M_stolen_49 : decode jb_M_stolen 49 = .ok (.getfield 339, 3) := by decide +kernel
theorem jd_M_stolen_52 : decode jb_M_stolen 52 = .ok (.iload_n 2, 1) := by decide +kernel
theorem jd_M_stolen_53 : decode jb_M_stolen 53 = .ok (.iastore, 1) := by decide +kernel
theorem jd_M_stolen_54 : decode jb_M_stolen 54 = .ok (.aload_n 0, 1) := by decide +kernel
theorem jd_M_stolen_55 : decode jb_M_stolen 55 = .ok (.dup, 1) := by decide +kernel
theorem jd_M_stolen_56 : decode jb_M_stolen 56 = .ok (.getfield 339, 3) := by decide +kernel
theorem jd_M_stolen_59 : decode jb_M_stolen 59 = .ok (.iconst 1, 1) := by decide +kernel
theorem jd_M_stolen_60 : decode jb_M_stolen 60 = .ok (.iadd, 1) := by decide +kernel
theorem jd_M_stolen_61 : decode jb_M_stolen 61 = .ok (.putfield 339, 3) := by decide +kernel
theorem jd_M_stolen_64 : decode jb_M_stolen 64 = .ok (.aload_n 0, 1) := by decide +kernel
theorem jd_M_stolen_65 : decode jb_M_stolen 65 = .ok (.getfield 339, 3) := by decide +kernel
theorem jd_M_stolen_68 : decode jb_M_stolen 68 = .ok (.ireturn, 1) := by decide +kernel
def f_M_stolen (F : Nat) (x1 : Int32) (x2 : Int32) (I : j_M) : Option (Int32 × j_M) := j_bd (f_M_among F x1 0 (I 215 2) I) (fun v1 I2 => (if v1 = 0 then some ((-1), I2) else j_bd (f_M_isPlace F x2 I2) (fun v3 I4 => (if v3 = 0 then some ((-1), I4) else (if (I4 215 68) = 20 then some ((-3), I4) else (if j_ok (I4 215 68) 20 = true then j_let (j_wr I4 258 (j_ix (I4 215 68)) x1) (fun I5 => (if j_ok (I5 215 68) 20 = true then j_let (j_wr I5 259 (j_ix (I5 215 68)) x2) (fun I6 => j_let (j_wr I6 215 68 ((I6 215 68) + 1)) (fun I7 => some (I7 215 68, I7))) else none)) else none))))))
set_option maxRecDepth 100000 in
set_option maxHeartbeats 4000000 in
theorem k_M_stolen {l : Launch} {g : j_G} {b n : Nat} {P : j_R} {F : Nat} (hF : j_Fx 0 260 P) (hn : 260 ≤ n) {x1 : Int32} {x2 : Int32} {I : j_M} {r : Int32 × j_M}  (h : f_M_stolen F x1 x2 I = some r) : j_Met l g b n P 2 jy_M_stolen jb_M_stolen 3 (some .int) [.ref (b + 215), .int x1, .int x2] I r.2 (some (.int r.1)) := by
  unfold f_M_stolen at h
  refine j_enter (plainFor_of_name (by decide)) (Nat.le_of_ble_eq_true rfl) [some (.ref (b + 215)), some (.int x1), some (.int x2)] rfl ?_
  intro p e R s m args below meth c X0 hnm hRc hRs
  have X : j_X p R s m args meth c g b 2 jb_M_stolen 3 "PleasureGardenModel" (some .int) := X0
  clear X0
  refine j_iload_n X jd_M_stolen_0 rfl rfl ?_
  refine j_iconst (v := 0) X jd_M_stolen_1 (by decide) ?_
  refine j_aload_n X jd_M_stolen_2 rfl rfl ?_
  refine j_get X jf_M_171 jk_12_2 js_215 (j_lt rfl hn) jd_M_stolen_3 ?_
  refine j_callSi (As := [.int x1, .int 0, .int (I 215 2)]) (st := []) X h ⟨jqc_M_among, jqs_M_among, jqn_M⟩ jlm_M_158 jh_M_among.2 rfl (by decide) (by decide) (Nat.le_of_ble_eq_true rfl) ⟨Nat.zero_le _, Nat.zero_le _⟩ (fun v0 I0 h => k_M_among (r := (v0, I0)) hF hn h) jd_M_stolen_6 rfl (fun v1 I2 h => ?_)
  refine j_if_eq (tgt := 20) X jd_M_stolen_9 rfl h (fun h => ?_) (fun h => ?_)
  · refine j_iconst (v := (-1)) X jd_M_stolen_20 (by decide) ?_
    exact j_iret X rfl jd_M_stolen_21 h
  · refine j_aload_n X jd_M_stolen_12 rfl rfl ?_
    refine j_iload_n X jd_M_stolen_13 rfl rfl ?_
    refine j_callVi (As := [.int x2]) (st := []) (c0 := 215) X h jc_M js_215 (j_lt rfl hn) ⟨jqc_M_isPlace, jqi_M_isPlace, jqv_M_isPlace, jqn_M⟩ jlm_M_162 jh_M_isPlace rfl (by decide) (by decide) (Nat.le_of_ble_eq_true rfl) ⟨Nat.zero_le _, Nat.zero_le _⟩ (fun v0 I0 h => k_M_isPlace (r := (v0, I0)) hF hn h) jd_M_stolen_14 rfl (fun v3 I4 h => ?_)
    refine j_if_ne (tgt := 22) X jd_M_stolen_17 rfl h (fun h => ?_) (fun h => ?_)
    · refine j_iconst (v := (-1)) X jd_M_stolen_20 (by decide) ?_
      exact j_iret X rfl jd_M_stolen_21 h
    · refine j_aload_n X jd_M_stolen_22 rfl rfl ?_
      refine j_get X jf_M_339 jk_12_68 js_215 (j_lt rfl hn) jd_M_stolen_23 ?_
      refine j_bipush (v := 20) X jd_M_stolen_26 (by decide) ?_
      refine j_icmp_ne (tgt := 34) X jd_M_stolen_28 rfl h (fun h => ?_) (fun h => ?_)
      · refine j_bipush (v := (-3)) X jd_M_stolen_31 (by decide) ?_
        exact j_iret X rfl jd_M_stolen_33 h
      · refine j_aload_n X jd_M_stolen_34 rfl rfl ?_
        refine j_getr X jf_M_146 jk_12_69 js_215 (j_lt rfl hn) (jp_215_69 hF) jd_M_stolen_35 ?_
        refine j_aload_n X jd_M_stolen_38 rfl rfl ?_
        refine j_get X jf_M_339 jk_12_68 js_215 (j_lt rfl hn) jd_M_stolen_39 ?_
        refine j_iload_n X jd_M_stolen_42 rfl rfl ?_
        refine j_iast X js_258 (j_lt rfl hn) jd_M_stolen_43 h (fun h => ?_)
        refine j_mem h (fun I5 h => ?_)
        refine j_aload_n X jd_M_stolen_44 rfl rfl ?_
        refine j_getr X jf_M_149 jk_12_70 js_215 (j_lt rfl hn) (jp_215_70 hF) jd_M_stolen_45 ?_
        refine j_aload_n X jd_M_stolen_48 rfl rfl ?_
        refine j_get X jf_M_339 jk_12_68 js_215 (j_lt rfl hn) jd_M_stolen_49 ?_
        refine j_iload_n X jd_M_stolen_52 rfl rfl ?_
        refine j_iast X js_259 (j_lt rfl hn) jd_M_stolen_53 h (fun h => ?_)
        refine j_mem h (fun I6 h => ?_)
        refine j_aload_n X jd_M_stolen_54 rfl rfl ?_
        refine j_dup X jd_M_stolen_55 rfl ?_
        refine j_get X jf_M_339 jk_12_68 js_215 (j_lt rfl hn) jd_M_stolen_56 ?_
        refine j_iconst (v := 1) X jd_M_stolen_59 (by decide) ?_
        refine j_iadd X jd_M_stolen_60 ?_
        refine j_puti X jt_M jto_M jn_M jf_M_339 jk_12_68 js_215 (j_lt rfl hn) (Or.inl rfl) rfl jd_M_stolen_61 ?_
        refine j_mem h (fun I7 h => ?_)
        refine j_aload_n X jd_M_stolen_64 rfl rfl ?_
        refine j_get X jf_M_339 jk_12_68 js_215 (j_lt rfl hn) jd_M_stolen_65 ?_
        exact j_iret X rfl jd_M_stolen_68 h
-- PleasureGardenModel.doubt(I)I
theorem jd_M_doubt_0 : decode jb_M_doubt 0 = .ok (.aload_n 0, 1) := by decide +kernel
theorem jd_M_doubt_1 : decode jb_M_doubt 1 = .ok (.iload_n 1, 1) := by decide +kernel
theorem jd_M_doubt_2 : decode jb_M_doubt 2 = .ok (.invokevirtual 206, 3) := by decide +kernel
theorem jd_M_doubt_5 : decode jb_M_doubt 5 = .ok (.ifCond .ne 5, 3) := by decide +kernel
theorem jd_M_doubt_8 : decode jb_M_doubt 8 = .ok (.iconst (-1), 1) := by decide +kernel
theorem jd_M_doubt_9 : decode jb_M_doubt 9 = .ok (.ireturn, 1) := by decide +kernel
theorem jd_M_doubt_10 : decode jb_M_doubt 10 = .ok (.iconst 0, 1) := by decide +kernel
theorem jd_M_doubt_11 : decode jb_M_doubt 11 = .ok (.istore_n 2, 1) := by decide +kernel
theorem jd_M_doubt_12 : decode jb_M_doubt 12 = .ok (.iconst 0, 1) := by decide +kernel
theorem jd_M_doubt_13 : decode jb_M_doubt 13 = .ok (.istore_n 3, 1) := by decide +kernel
theorem jd_M_doubt_14 : decode jb_M_doubt 14 = .ok (.iload_n 3, 1) := by decide +kernel
theorem jd_M_doubt_15 : decode jb_M_doubt 15 = .ok (.aload_n 0, 1) := by decide +kernel
theorem jd_M_doubt_16 : decode jb_M_doubt 16 = .ok (.getfield 339, 3) := by decide +kernel
theorem jd_M_doubt_19 : decode jb_M_doubt 19 = .ok (.if_icmp .ge 26, 3) := by decide +kernel
theorem jd_M_doubt_22 : decode jb_M_doubt 22 = .ok (.iload_n 2, 1) := by decide +kernel
theorem jd_M_doubt_23 : decode jb_M_doubt 23 = .ok (.aload_n 0, 1) := by decide +kernel
theorem jd_M_doubt_24 : decode jb_M_doubt 24 = .ok (.iload_n 1, 1) := by decide +kernel
theorem jd_M_doubt_25 : decode jb_M_doubt 25 = .ok (.iload_n 3, 1) := by decide +kernel
theorem jd_M_doubt_26 : decode jb_M_doubt 26 = .ok (.invokevirtual 346, 3) := by decide +kernel
theorem jd_M_doubt_29 : decode jb_M_doubt 29 = .ok (.ifCond .eq 7, 3) := by decide +kernel
theorem jd_M_doubt_32 : decode jb_M_doubt 32 = .ok (.iconst 1, 1) := by decide +kernel
theorem jd_M_doubt_33 : decode jb_M_doubt 33 = .ok (.goto 4, 3) := by decide +kernel
theorem jd_M_doubt_36 : decode jb_M_doubt 36 = .ok (.iconst 0, 1) := by decide +kernel
theorem jd_M_doubt_37 : decode jb_M_doubt 37 = .ok (.iadd, 1) := by decide +kernel
theorem jd_M_doubt_38 : decode jb_M_doubt 38 = .ok (.istore_n 2, 1) := by decide +kernel
theorem jd_M_doubt_39 : decode jb_M_doubt 39 = .ok (.iinc 3 1, 3) := by decide +kernel
theorem jd_M_doubt_42 : decode jb_M_doubt 42 = .ok (.goto (-28), 3) := by decide +kernel
theorem jd_M_doubt_45 : decode jb_M_doubt 45 = .ok (.iload_n 2, 1) := by decide +kernel
theorem jd_M_doubt_46 : decode jb_M_doubt 46 = .ok (.ireturn, 1) := by decide +kernel
def f_M_doubt_37 (F : Nat) (kb14 : Int32 → Int32 → Int32 → j_M → Option (Int32 × j_M)) (x1 : Int32) (x3 : Int32) (s0 : Int32) (s1 : Int32) (I : j_M) : Option (Int32 × j_M) := j_let (s0 + s1) (fun v1 => j_let (x3 + 1) (fun v2 => kb14 x1 v1 v2 I))
def f_M_doubt_14b (F : Nat) (kb14 : Int32 → Int32 → Int32 → j_M → Option (Int32 × j_M)) (x1 : Int32) (x2 : Int32) (x3 : Int32) (I : j_M) : Option (Int32 × j_M) := (if (I 215 68) ≤ x3 then some (x2, I) else j_bd (f_M_isNear F x1 x3 I) (fun v3 I4 => (if v3 = 0 then f_M_doubt_37 F kb14 x1 x3 x2 0 I4 else f_M_doubt_37 F kb14 x1 x3 x2 1 I4)))
def f_M_doubt_14 (F : Nat)  (x1 : Int32) (x2 : Int32) (x3 : Int32) (I : j_M) : Option (Int32 × j_M) := j_it (fun (again : Int32 × Int32 × Int32 × j_M → Option (Int32 × j_M)) (q : Int32 × Int32 × Int32 × j_M) => f_M_doubt_14b F  (fun x1 x2 x3 I => again (x1, x2, x3, I))  q.1 q.2.1 q.2.2.1 q.2.2.2) F (x1, x2, x3, I)
def f_M_doubt (F : Nat) (x1 : Int32) (I : j_M) : Option (Int32 × j_M) := j_bd (f_M_isParty F x1 I) (fun v5 I6 => (if v5 = 0 then some ((-1), I6) else f_M_doubt_14 F x1 0 0 I6))
set_option maxRecDepth 100000 in
set_option maxHeartbeats 4000000 in
theorem k_M_doubt_37 {p : Program} {l : Launch} {e : Env} {R : Room} {s : State} {m : MethodId} {args : Array Value} {below : List Frame} {meth : Method} {c : Code} {g : j_G} {b n : Nat} {P : j_R} {F : Nat} (hF : j_Fx 0 260 P) (hn : 260 ≤ n) (X : j_X p R s m args meth c g b 2 jb_M_doubt 4 "PleasureGardenModel" (some .int)) {kb14 : Int32 → Int32 → Int32 → j_M → Option (Int32 × j_M)} (hkb14 : ∀ (x1 : Int32) (x2 : Int32) (x3 : Int32) (I : j_M) (r : Int32 × j_M), kb14 x1 x2 x3 I = some r → j_W p l e R s m args below meth c 4 g b n 0 0 (j_Qi g b n P below args s r) I P 14 [some (.ref (b + 215)), some (.int x1), some (.int x2), some (.int x3)] []) {x1 : Int32} {x3 : Int32} {s0 : Int32} {s1 : Int32} {I : j_M} {r : Int32 × j_M}  (h : f_M_doubt_37 F kb14 x1 x3 s0 s1 I = some r) : j_W p l e R s m args below meth c 4 g b n 0 0 (j_Qi g b n P below args s r) I P 37 [some (.ref (b + 215)), some (.int x1), none, some (.int x3)] [.int s1, .int s0] := by
  unfold f_M_doubt_37 at h
  refine j_iadd X jd_M_doubt_37 ?_
  refine j_nm h (fun v1 h => ?_)
  refine j_istore_n (lv' := [some (.ref (b + 215)), some (.int x1), some (.int v1), some (.int x3)]) X jd_M_doubt_38 rfl (by decide) rfl ?_
  obtain ⟨v2, ev2, h⟩ := j_ex h
  refine j_iinc (v := v2) (lv' := [some (.ref (b + 215)), some (.int x1), some (.int v1), some (.int v2)]) X jd_M_doubt_39 rfl (by rw [ev2]; rfl) (by decide) rfl ?_
  refine j_goto (tgt := 14) X jd_M_doubt_42 rfl ?_
  exact hkb14 _ _ _ _ _ h
set_option maxRecDepth 100000 in
set_option maxHeartbeats 4000000 in
theorem k_M_doubt_14b {p : Program} {l : Launch} {e : Env} {R : Room} {s : State} {m : MethodId} {args : Array Value} {below : List Frame} {meth : Method} {c : Code} {g : j_G} {b n : Nat} {P : j_R} {F : Nat} (hF : j_Fx 0 260 P) (hn : 260 ≤ n) (X : j_X p R s m args meth c g b 2 jb_M_doubt 4 "PleasureGardenModel" (some .int)) {kb14 : Int32 → Int32 → Int32 → j_M → Option (Int32 × j_M)} (hkb14 : ∀ (x1 : Int32) (x2 : Int32) (x3 : Int32) (I : j_M) (r : Int32 × j_M), kb14 x1 x2 x3 I = some r → j_W p l e R s m args below meth c 4 g b n 0 0 (j_Qi g b n P below args s r) I P 14 [some (.ref (b + 215)), some (.int x1), some (.int x2), some (.int x3)] []) {x1 : Int32} {x2 : Int32} {x3 : Int32} {I : j_M} {r : Int32 × j_M}  (h : f_M_doubt_14b F kb14 x1 x2 x3 I = some r) : j_W p l e R s m args below meth c 4 g b n 0 0 (j_Qi g b n P below args s r) I P 14 [some (.ref (b + 215)), some (.int x1), some (.int x2), some (.int x3)] [] := by
  unfold f_M_doubt_14b at h
  refine j_iload_n X jd_M_doubt_14 rfl rfl ?_
  refine j_aload_n X jd_M_doubt_15 rfl rfl ?_
  refine j_get X jf_M_339 jk_12_68 js_215 (j_lt rfl hn) jd_M_doubt_16 ?_
  refine j_icmp_ge (tgt := 45) X jd_M_doubt_19 rfl h (fun h => ?_) (fun h => ?_)
  · refine j_iload_n X jd_M_doubt_45 rfl rfl ?_
    exact j_iret X rfl jd_M_doubt_46 h
  · refine j_iload_n X jd_M_doubt_22 rfl rfl ?_
    refine j_aload_n X jd_M_doubt_23 rfl rfl ?_
    refine j_iload_n X jd_M_doubt_24 rfl rfl ?_
    refine j_iload_n X jd_M_doubt_25 rfl rfl ?_
    refine j_callVi (As := [.int x1, .int x3]) (st := [.int x2]) (c0 := 215) X h jc_M js_215 (j_lt rfl hn) ⟨jqc_M_isNear, jqi_M_isNear, jqv_M_isNear, jqn_M⟩ jlm_M_346 jh_M_isNear rfl (by decide) (by decide) (Nat.le_of_ble_eq_true rfl) ⟨Nat.zero_le _, Nat.zero_le _⟩ (fun v0 I0 h => k_M_isNear (r := (v0, I0)) hF hn h) jd_M_doubt_26 rfl (fun v3 I4 h => ?_)
    refine j_if_eq (tgt := 36) X jd_M_doubt_29 rfl h (fun h => ?_) (fun h => ?_)
    · refine j_iconst (v := 0) X jd_M_doubt_36 (by decide) ?_
      refine j_sub [true, true, false, true] (lv' := [some (.ref (b + 215)), some (.int x1), none, some (.int x3)]) rfl ?_
      exact k_M_doubt_37 hF hn X hkb14 h
    · refine j_iconst (v := 1) X jd_M_doubt_32 (by decide) ?_
      refine j_goto (tgt := 37) X jd_M_doubt_33 rfl ?_
      refine j_sub [true, true, false, true] (lv' := [some (.ref (b + 215)), some (.int x1), none, some (.int x3)]) rfl ?_
      exact k_M_doubt_37 hF hn X hkb14 h
set_option maxRecDepth 100000 in
set_option maxHeartbeats 4000000 in
theorem k_M_doubt_14 {p : Program} {l : Launch} {e : Env} {R : Room} {s : State} {m : MethodId} {args : Array Value} {below : List Frame} {meth : Method} {c : Code} {g : j_G} {b n : Nat} {P : j_R} {F : Nat} (hF : j_Fx 0 260 P) (hn : 260 ≤ n) (X : j_X p R s m args meth c g b 2 jb_M_doubt 4 "PleasureGardenModel" (some .int))  {x1 : Int32} {x2 : Int32} {x3 : Int32} {I : j_M} {r : Int32 × j_M} (h : f_M_doubt_14 F x1 x2 x3 I = some r) : j_W p l e R s m args below meth c 4 g b n 0 0 (j_Qi g b n P below args s r) I P 14 [some (.ref (b + 215)), some (.int x1), some (.int x2), some (.int x3)] [] := by
  refine j_loop (G := fun (q : Int32 × Int32 × Int32 × j_M) (r : Int32 × j_M) => j_W p l e R s m args below meth c 4 g b n 0 0 (j_Qi g b n P below args s r) q.2.2.2 P 14 [some (.ref (b + 215)), some (.int (q.1)), some (.int (q.2.1)), some (.int (q.2.2.1))] []) ?_ F (x1, x2, x3, I) r h
  intro again hrec0 q r h
  exact k_M_doubt_14b hF hn X (fun x1 x2 x3 I r h => hrec0 (x1, x2, x3, I) r h)  h
set_option maxRecDepth 100000 in
set_option maxHeartbeats 4000000 in
theorem k_M_doubt {l : Launch} {g : j_G} {b n : Nat} {P : j_R} {F : Nat} (hF : j_Fx 0 260 P) (hn : 260 ≤ n) {x1 : Int32} {I : j_M} {r : Int32 × j_M}  (h : f_M_doubt F x1 I = some r) : j_Met l g b n P 2 jy_M_doubt jb_M_doubt 4 (some .int) [.ref (b + 215), .int x1] I r.2 (some (.int r.1)) := by
  unfold f_M_doubt at h
  refine j_enter (plainFor_of_name (by decide)) (Nat.le_of_ble_eq_true rfl) [some (.ref (b + 215)), some (.int x1), none, none] rfl ?_
  intro p e R s m args below meth c X0 hnm hRc hRs
  have X : j_X p R s m args meth c g b 2 jb_M_doubt 4 "PleasureGardenModel" (some .int) := X0
  clear X0
  refine j_aload_n X jd_M_doubt_0 rfl rfl ?_
  refine j_iload_n X jd_M_doubt_1 rfl rfl ?_
  refine j_callVi (As := [.int x1]) (st := []) (c0 := 215) X h jc_M js_215 (j_lt rfl hn) ⟨jqc_M_isParty, jqi_M_isParty, jqv_M_isParty, jqn_M⟩ jlm_M_206 jh_M_isParty rfl (by decide) (by decide) (Nat.le_of_ble_eq_true rfl) ⟨Nat.zero_le _, Nat.zero_le _⟩ (fun v0 I0 h => k_M_isParty (r := (v0, I0)) hF hn h) jd_M_doubt_2 rfl (fun v5 I6 h => ?_)
  refine j_if_ne (tgt := 10) X jd_M_doubt_5 rfl h (fun h => ?_) (fun h => ?_)
  · refine j_iconst (v := (-1)) X jd_M_doubt_8 (by decide) ?_
    exact j_iret X rfl jd_M_doubt_9 h
  · refine j_iconst (v := 0) X jd_M_doubt_10 (by decide) ?_
    refine j_istore_n (lv' := [some (.ref (b + 215)), some (.int x1), some (.int 0), none]) X jd_M_doubt_11 rfl (by decide) rfl ?_
    refine j_iconst (v := 0) X jd_M_doubt_12 (by decide) ?_
    refine j_istore_n (lv' := [some (.ref (b + 215)), some (.int x1), some (.int 0), some (.int 0)]) X jd_M_doubt_13 rfl (by decide) rfl ?_
    exact k_M_doubt_14 hF hn X h
