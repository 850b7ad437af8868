-- PleasureGardenModel.go(II)I
theorem jd_M_go_0 : decode jb_M_go 0 = .ok (.aload_n 0, 1) := by decide +kernel
theorem jd_M_go_1 : decode jb_M_go 1 = .ok (.iload_n 1, 1) := by decide +kernel
theorem jd_M_go_2 : decode jb_M_go 2 = .ok (.invokevirtual 206, 3) := by decide +kernel
theorem jd_M_go_5 : decode jb_M_go 5 = .ok (.ifCond .eq 11, 3) := by decide +kernel
theorem jd_M_go_8 : decode jb_M_go 8 = .ok (.aload_n 0, 1) := by decide +kernel
theorem jd_M_go_9 : decode jb_M_go 9 = .ok (.iload_n 2, 1) := by decide +kernel
theorem jd_M_go_10 : decode jb_M_go 10 = .ok (.invokevirtual 162, 3) := by decide +kernel
theorem jd_M_go_13 : decode jb_M_go 13 = .ok (.ifCond .ne 5, 3) := by decide +kernel
theorem jd_M_go_16 : decode jb_M_go 16 = .ok (.iconst (-1), 1) := by decide +kernel
theorem jd_M_go_17 : decode jb_M_go 17 = .ok (.ireturn, 1) := by decide +kernel
theorem jd_M_go_18 : decode jb_M_go 18 = .ok (.aload_n 0, 1) := by decide +kernel
theorem jd_M_go_19 : decode jb_M_go 19 = .ok (.getfield 38, 3) := by decide +kernel
theorem jd_M_go_22 : decode jb_M_go 22 = .ok (.iload_n 1, 1) := by decide +kernel
theorem jd_M_go_23 : decode jb_M_go 23 = .ok (.iaload, 1) := by decide +kernel
theorem jd_M_go_24 : decode jb_M_go 24 = .ok (.ifCond .ne 13, 3) := by decide +kernel
theorem jd_M_go_27 : decode jb_M_go 27 = .ok (.aload_n 0, 1) := by decide +kernel
theorem jd_M_go_28 : decode jb_M_go 28 = .ok (.getfield 41, 3) := by decide +kernel
theorem jd_M_go_31 : decode jb_M_go 31 = .ok (.iload_n 1, 1) := by decide +kernel
theorem jd_M_go_32 : decode jb_M_go 32 = .ok (.iaload, 1) := by decide +kernel
theorem jd_M_go_33 : decode jb_M_go 33 = .ok (.iload_n 2, 1) := by decide +kernel
theorem jd_M_go_34 : decode jb_M_go 34 = .ok (.if_icmp .ne 6, 3) := by decide +kernel
theorem jd_M_go_37 : decode jb_M_go 37 = .ok (.bipush (-2), 2) := by decide +kernel
theorem jd_M_go_39 : decode jb_M_go 39 = .ok (.ireturn, 1) := by decide +kernel
theorem jd_M_go_40 : decode jb_M_go 40 = .ok (.aload_n 0, 1) := by decide +kernel
theorem jd_M_go_41 : decode jb_M_go 41 = .ok (.aload_n 0, 1) := by decide +kernel
theorem jd_M_go_42 : decode jb_M_go 42 = .ok (.getfield 41, 3) := by decide +kernel
theorem jd_M_go_45 : decode jb_M_go 45 = .ok (.iload_n 1, 1) := by decide +kernel
theorem jd_M_go_46 : decode jb_M_go 46 = .ok (.iaload, 1) := by decide +kernel
theorem jd_M_go_47 : decode jb_M_go 47 = .ok (.invokevirtual 167, 3) := by decide +kernel
theorem jd_M_go_50 : decode jb_M_go 50 = .ok (.aload_n 0, 1) := by decide +kernel
theorem jd_M_go_51 : decode jb_M_go 51 = .ok (.getfield 26, 3) := by decide +kernel
theorem jd_M_go_54 : decode jb_M_go 54 = .ok (.iload_n 2, 1) := by decide +kernel
theorem jd_M_go_55 : decode jb_M_go 55 = .ok (.iaload, 1) := by decide +kernel
theorem jd_M_go_56 : decode jb_M_go 56 = .ok (.ldc 166, 2) := by decide +kernel
theorem jd_M_go_58 : decode jb_M_go 58 = .ok (.if_icmp .ne 6, 3) := by decide +kernel
theorem jd_M_go_61 : decode jb_M_go 61 = .ok (.bipush (-4), 2) := by decide +kernel
theorem jd_M_go_63 : decode jb_M_go 63 = .ok (.ireturn, 1) := by decide +kernel
theorem jd_M_go_64 : decode jb_M_go 64 = .ok (.aload_n 0, 1) := by decide +kernel
theorem jd_M_go_65 : decode jb_M_go 65 = .ok (.getfield 26, 3) := by decide +kernel
theorem jd_M_go_68 : decode jb_M_go 68 = .ok (.iload_n 2, 1) := by decide +kernel
theorem jd_M_go_69 : decode jb_M_go 69 = .ok (.iaload, 1) := by decide +kernel
theorem jd_M_go_70 : decode jb_M_go 70 = .ok (.istore_n 3, 1) := by decide +kernel
theorem jd_M_go_71 : decode jb_M_go 71 = .ok (.aload_n 0, 1) := by decide +kernel
theorem jd_M_go_72 : decode jb_M_go 72 = .ok (.iload_n 1, 1) := by decide +kernel
theorem jd_M_go_73 : decode jb_M_go 73 = .ok (.iload_n 2, 1) := by decide +kernel
theorem jd_M_go_74 : decode jb_M_go 74 = .ok (.iload_n 3, 1) := by decide +kernel
theorem jd_M_go_75 : decode jb_M_go 75 = .ok (.invokevirtual 209, 3) := by decide +kernel
theorem jd_M_go_78 : decode jb_M_go 78 = .ok (.iload_n 3, 1) := by decide +kernel
theorem jd_M_go_79 : decode jb_M_go 79 = .ok (.ireturn, 1) := by decide +kernel
def f_M_go (F : Nat) (x1 : Int32) (x2 : Int32) (I : j_M) : Option (Int32 × j_M) := j_bd (f_M_isParty F x1 I) (fun v1 I2 => (if v1 = 0 then some ((-1), I2) else j_bd (f_M_isPlace F x2 I2) (fun v3 I4 => (if v3 = 0 then some ((-1), I4) else (if j_ok x1 100 = true then (if (I4 225 (j_ix x1)) = 0 then (if j_ok x1 100 = true then (if (I4 226 (j_ix x1)) = x2 then some ((-2), I4) else (if j_ok x1 100 = true then j_bd (f_M_findFar F (I4 226 (j_ix x1)) I4) (fun v5 I6 => (if j_ok x2 16 = true then (if (I6 221 (j_ix x2)) = 1000000 then some ((-4), I6) else (if j_ok x2 16 = true then j_let (I6 221 (j_ix x2)) (fun v7 => j_bd (f_M_goes F x1 x2 v7 I6) (fun v8 I9 => some (v7, I9))) else none)) else none)) else none)) else none) else some ((-2), I4)) else none)))))
set_option maxRecDepth 100000 in
set_option maxHeartbeats 4000000 in
theorem k_M_go {l : Launch} {g : j_G} {b n : Nat} {P : j_R} {F : Nat} (hF : j_Fx 0 260 P) (hn : 260 ≤ n) {x1 : Int32} {x2 : Int32} {I : j_M} {r : Int32 × j_M}  (h : f_M_go F x1 x2 I = some r) : j_Met l g b n P 3 jy_M_go jb_M_go 4 (some .int) [.ref (b + 215), .int x1, .int x2] I r.2 (some (.int r.1)) := by
  unfold f_M_go at h
  refine j_enter (plainFor_of_name (by decide)) (Nat.le_of_ble_eq_true rfl) [some (.ref (b + 215)), some (.int x1), some (.int x2), none] rfl ?_
  intro p e R s m args below meth c X0 hnm hRc hRs
  have X : j_X p R s m args meth c g b 3 jb_M_go 4 "PleasureGardenModel" (some .int) := X0
  clear X0
  refine j_aload_n X jd_M_go_0 rfl rfl ?_
  refine j_iload_n X jd_M_go_1 rfl rfl ?_
  refine j_callVi (As := [.int x1]) (st := []) (c0 := 215) X h jc_M js_215 (j_lt rfl hn) ⟨jqc_M_isParty, jqi_M_isParty, jqv_M_isParty, jqn_M⟩ jlm_M_206 jh_M_isParty rfl (by decide) (by decide) (Nat.le_of_ble_eq_true rfl) ⟨Nat.zero_le _, Nat.zero_le _⟩ (fun v0 I0 h => k_M_isParty (r := (v0, I0)) hF hn h) jd_M_go_2 rfl (fun v1 I2 h => ?_)
  refine j_if_eq (tgt := 16) X jd_M_go_5 rfl h (fun h => ?_) (fun h => ?_)
  · refine j_iconst (v := (-1)) X jd_M_go_16 (by decide) ?_
    exact j_iret X rfl jd_M_go_17 h
  · refine j_aload_n X jd_M_go_8 rfl rfl ?_
    refine j_iload_n X jd_M_go_9 rfl rfl ?_
    refine j_callVi (As := [.int x2]) (st := []) (c0 := 215) X h jc_M js_215 (j_lt rfl hn) ⟨jqc_M_isPlace, jqi_M_isPlace, jqv_M_isPlace, jqn_M⟩ jlm_M_162 jh_M_isPlace rfl (by decide) (by decide) (Nat.le_of_ble_eq_true rfl) ⟨Nat.zero_le _, Nat.zero_le _⟩ (fun v0 I0 h => k_M_isPlace (r := (v0, I0)) hF hn h) jd_M_go_10 rfl (fun v3 I4 h => ?_)
    refine j_if_ne (tgt := 18) X jd_M_go_13 rfl h (fun h => ?_) (fun h => ?_)
    · refine j_iconst (v := (-1)) X jd_M_go_16 (by decide) ?_
      exact j_iret X rfl jd_M_go_17 h
    · refine j_aload_n X jd_M_go_18 rfl rfl ?_
      refine j_getr X jf_M_38 jk_12_15 js_215 (j_lt rfl hn) (jp_215_15 hF) jd_M_go_19 ?_
      refine j_iload_n X jd_M_go_22 rfl rfl ?_
      refine j_iald X js_225 (j_lt rfl hn) jd_M_go_23 h (fun _ h => ?_)
      refine j_if_ne (tgt := 37) X jd_M_go_24 rfl h (fun h => ?_) (fun h => ?_)
      · refine j_aload_n X jd_M_go_27 rfl rfl ?_
        refine j_getr X jf_M_41 jk_12_16 js_215 (j_lt rfl hn) (jp_215_16 hF) jd_M_go_28 ?_
        refine j_iload_n X jd_M_go_31 rfl rfl ?_
        refine j_iald X js_226 (j_lt rfl hn) jd_M_go_32 h (fun _ h => ?_)
        refine j_iload_n X jd_M_go_33 rfl rfl ?_
        refine j_icmp_ne (tgt := 40) X jd_M_go_34 rfl h (fun h => ?_) (fun h => ?_)
        · refine j_bipush (v := (-2)) X jd_M_go_37 (by decide) ?_
          exact j_iret X rfl jd_M_go_39 h
        · refine j_aload_n X jd_M_go_40 rfl rfl ?_
          refine j_aload_n X jd_M_go_41 rfl rfl ?_
          refine j_getr X jf_M_41 jk_12_16 js_215 (j_lt rfl hn) (jp_215_16 hF) jd_M_go_42 ?_
          refine j_iload_n X jd_M_go_45 rfl rfl ?_
          refine j_iald X js_226 (j_lt rfl hn) jd_M_go_46 h (fun _ h => ?_)
          refine j_callVv (As := [.int (I4 226 (j_ix x1))]) (st := []) (c0 := 215) X h jc_M js_215 (j_lt rfl hn) ⟨jqc_M_findFar, jqi_M_findFar, jqv_M_findFar, jqn_M⟩ jlm_M_167 jh_M_findFar rfl (by decide) (by decide) (Nat.le_of_ble_eq_true rfl) ⟨Nat.zero_le _, Nat.zero_le _⟩ (fun v0 I0 h => k_M_findFar (r := (v0, I0)) hF hn h) jd_M_go_47 rfl (fun v5 I6 h => ?_)
          refine j_aload_n X jd_M_go_50 rfl rfl ?_
          refine j_getr X jf_M_26 jk_12_10 js_215 (j_lt rfl hn) (jp_215_10 hF) jd_M_go_51 ?_
          refine j_iload_n X jd_M_go_54 rfl rfl ?_
          refine j_iald X js_221 (j_lt rfl hn) jd_M_go_55 h (fun _ h => ?_)
          refine j_ldc (v := 1000000) X jlc_M_166 jd_M_go_56 ?_
          refine j_icmp_ne (tgt := 64) X jd_M_go_58 rfl h (fun h => ?_) (fun h => ?_)
          · refine j_bipush (v := (-4)) X jd_M_go_61 (by decide) ?_
            exact j_iret X rfl jd_M_go_63 h
          · refine j_aload_n X jd_M_go_64 rfl rfl ?_
            refine j_getr X jf_M_26 jk_12_10 js_215 (j_lt rfl hn) (jp_215_10 hF) jd_M_go_65 ?_
            refine j_iload_n X jd_M_go_68 rfl rfl ?_
            refine j_iald X js_221 (j_lt rfl hn) jd_M_go_69 h (fun _ h => ?_)
            refine j_nm h (fun v7 h => ?_)
            refine j_istore_n (lv' := [some (.ref (b + 215)), some (.int x1), some (.int x2), some (.int v7)]) X jd_M_go_70 rfl (by decide) rfl ?_
            refine j_aload_n X jd_M_go_71 rfl rfl ?_
            refine j_iload_n X jd_M_go_72 rfl rfl ?_
            refine j_iload_n X jd_M_go_73 rfl rfl ?_
            refine j_iload_n X jd_M_go_74 rfl rfl ?_
            refine j_callVv (As := [.int x1, .int x2, .int v7]) (st := []) (c0 := 215) X h jc_M js_215 (j_lt rfl hn) ⟨jqc_M_goes, jqi_M_goes, jqv_M_goes, jqn_M⟩ jlm_M_209 jh_M_goes rfl (by decide) (by decide) (Nat.le_of_ble_eq_true rfl) ⟨Nat.zero_le _, Nat.zero_le _⟩ (fun v0 I0 h => k_M_goes (r := (v0, I0)) hF hn h) jd_M_go_75 rfl (fun v8 I9 h => ?_)
            refine j_iload_n X jd_M_go_78 rfl rfl ?_
            exact j_iret X rfl jd_M_go_79 h
      · refine j_bipush (v := (-2)) X jd_M_go_37 (by decide) ?_
        exact j_iret X rfl jd_M_go_39 h
-- PleasureGardenModel.flee(I)V
theorem jd_M_flee_0 : decode jb_M_flee 0 = .ok (.aload_n 0, 1) := by decide +kernel
theorem jd_M_flee_1 : decode jb_M_flee 1 = .ok (.aload_n 0, 1) := by decide +kernel
theorem jd_M_flee_2 : decode jb_M_flee 2 = .ok (.getfield 41, 3) := by decide +kernel
theorem jd_M_flee_5 : decode jb_M_flee 5 = .ok (.iload_n 1, 1) := by decide +kernel
theorem jd_M_flee_6 : decode jb_M_flee 6 = .ok (.iaload, 1) := by decide +kernel
theorem jd_M_flee_7 : decode jb_M_flee 7 = .ok (.invokevirtual 167, 3) := by decide +kernel
theorem jd_M_flee_10 : decode jb_M_flee 10 = .ok (.iconst (-1), 1) := by decide +kernel
theorem jd_M_flee_11 : decode jb_M_flee 11 = .ok (.istore_n 2, 1) := by decide +kernel
theorem jd_M_flee_12 : decode jb_M_flee 12 = .ok (.iconst 1, 1) := by decide +kernel
theorem jd_M_flee_13 : decode jb_M_flee 13 = .ok (.istore_n 3, 1) := by decide +kernel
theorem jd_M_flee_14 : decode jb_M_flee 14 = .ok (.iload_n 3, 1) := by decide +kernel
theorem jd_M_flee_15 : decode jb_M_flee 15 = .ok (.aload_n 0, 1) := by decide +kernel
theorem jd_M_flee_16 : decode jb_M_flee 16 = .ok (.getfield 155, 3) := by decide +kernel
theorem jd_M_flee_19 : decode jb_M_flee 19 = .ok (.if_icmp .ge 50, 3) := by decide +kernel
theorem jd_M_flee_22 : decode jb_M_flee 22 = .ok (.aload_n 0, 1) := by decide +kernel
theorem jd_M_flee_23 : decode jb_M_flee 23 = .ok (.getfield 13, 3) := by decide +kernel
theorem jd_M_flee_26 : decode jb_M_flee 26 = .ok (.iload_n 3, 1) := by decide +kernel
theorem jd_M_flee_27 : decode jb_M_flee 27 = .ok (.baload, 1) := by decide +kernel
theorem jd_M_flee_28 : decode jb_M_flee 28 = .ok (.ifCond .eq 35, 3) := by decide +kernel
theorem jd_M_flee_31 : decode jb_M_flee 31 = .ok (.aload_n 0, 1) := by decide +kernel
theorem jd_M_flee_32 : decode jb_M_flee 32 = .ok (.getfield 26, 3) := by decide +kernel
theorem jd_M_flee_35 : decode jb_M_flee 35 = .ok (.iload_n 3, 1) := by decide +kernel
theorem jd_M_flee_36 : decode jb_M_flee 36 = .ok (.iaload, 1) := by decide +kernel
theorem jd_M_flee_37 : decode jb_M_flee 37 = .ok (.ldc 166, 2) := by decide +kernel
theorem jd_M_flee_39 : decode jb_M_flee 39 = .ok (.if_icmp .ge 24, 3) := by decide +kernel
theorem jd_M_flee_42 : decode jb_M_flee 42 = .ok (.iload_n 2, 1) := by decide +kernel
theorem jd_M_flee_43 : decode jb_M_flee 43 = .ok (.ifCond .lt 18, 3) := by decide +kernel
theorem jd_M_flee_46 : decode jb_M_flee 46 = .ok (.aload_n 0, 1) := by decide +kernel
theorem jd_M_flee_47 : decode jb_M_flee 47 = .ok (.getfield 26, 3) := by decide +kernel
theorem jd_M_flee_50 : decode jb_M_flee 50 = .ok (.iload_n 3, 1) := by decide +kernel
theorem jd_M_flee_51 : decode jb_M_flee 51 = .ok (.iaload, 1) := by decide +kernel
theorem jd_M_flee_52 : decode jb_M_flee 52 = .ok (.aload_n 0, 1) := by decide +kernel
theorem jd_M_flee_53 : decode jb_M_flee 53 = .ok (.getfield 26, 3) := by decide +kernel
theorem jd_M_flee_56 : decode jb_M_flee 56 = .ok (.iload_n 2, 1) := by decide +kernel
theorem jd_M_flee_57 : decode jb_M_flee 57 = .ok (.iaload, 1) := by decide +kernel
theorem jd_M_flee_58 : decode jb_M_flee 58 = .ok (.if_icmp .ge 5, 3) := by decide +kernel
theorem jd_M_flee_61 : decode jb_M_flee 61 = .ok (.iload_n 3, 1) := by decide +kernel
theorem jd_M_flee_62 : decode jb_M_flee 62 = .ok (.istore_n 2, 1) := by decide +kernel
theorem jd_M_flee_63 : decode jb_M_flee 63 = .ok (.iinc 3 1, 3) := by decide +kernel
theorem jd_M_flee_66 : decode jb_M_flee 66 = .ok (.goto (-52), 3) := by decide +kernel
theorem jd_M_flee_69 : decode jb_M_flee 69 = .ok (.iload_n 2, 1) := by decide +kernel
theorem jd_M_flee_70 : decode jb_M_flee 70 = .ok (.ifCond .lt 15, 3) := by decide +kernel
theorem jd_M_flee_73 : decode jb_M_flee 73 = .ok (.aload_n 0, 1) := by decide +kernel
theorem jd_M_flee_74 : decode jb_M_flee 74 = .ok (.iload_n 1, 1) := by decide +kernel
theorem jd_M_flee_75 : decode jb_M_flee 75 = .ok (.iload_n 2, 1) := by decide +kernel
theorem jd_M_flee_76 : decode jb_M_flee 76 = .ok (.aload_n 0, 1) := by decide +kernel
theorem jd_M_flee_77 : decode jb_M_flee 77 = .ok (.getfield 26, 3) := by decide +kernel
theorem jd_M_flee_80 : decode jb_M_flee 80 = .ok (.iload_n 2, 1) := by decide +kernel
theorem jd_M_flee_81 : decode jb_M_flee 81 = .ok (.iaload, 1) := by decide +kernel
theorem jd_M_flee_82 : decode jb_M_flee 82 = .ok (.invokevirtual 209, 3) := by decide +kernel
theorem jd_M_flee_85 : decode jb_M_flee 85 = .ok (.return_, 1) := by decide +kernel
def f_M_flee_63 (F : Nat) (kb14 : Int32 → Int32 → Int32 → j_M → Option (Int32 × j_M)) (x1 : Int32) (x2 : Int32) (x3 : Int32) (I : j_M) : Option (Int32 × j_M) := j_let (x3 + 1) (fun v1 => kb14 x1 x2 v1 I)
def f_M_flee_61 (F : Nat) (kb14 : Int32 → Int32 → Int32 → j_M → Option (Int32 × j_M)) (x1 : Int32) (x3 : Int32) (I : j_M) : Option (Int32 × j_M) := f_M_flee_63 F kb14 x1 x3 x3 I
def f_M_flee_14b (F : Nat) (kb14 : Int32 → Int32 → Int32 → j_M → Option (Int32 × j_M)) (x1 : Int32) (x2 : Int32) (x3 : Int32) (I : j_M) : Option (Int32 × j_M) := (if (I 215 3) ≤ x3 then (if x2 < 0 then some (0, I) else (if j_ok x2 16 = true then j_bd (f_M_goes F x1 x2 (I 221 (j_ix x2)) I) (fun v2 I3 => some (0, I3)) else none)) else (if j_ok x3 16 = true then (if (I 217 (j_ix x3)) = 0 then f_M_flee_63 F kb14 x1 x2 x3 I else (if j_ok x3 16 = true then (if 1000000 ≤ (I 221 (j_ix x3)) then f_M_flee_63 F kb14 x1 x2 x3 I else (if x2 < 0 then f_M_flee_61 F kb14 x1 x3 I else (if j_ok x3 16 = true then (if j_ok x2 16 = true then (if (I 221 (j_ix x2)) ≤ (I 221 (j_ix x3)) then f_M_flee_63 F kb14 x1 x2 x3 I else f_M_flee_61 F kb14 x1 x3 I) else none) else none))) else none)) else none))
def f_M_flee_14 (F : Nat)  (x1 : Int32) (x2 : Int32) (x3 : Int32) (I : j_M) : Option (Int32 × j_M) := j_it (fun (again : Int32 × Int32 × Int32 × j_M → Option (Int32 × j_M)) (q : Int32 × Int32 × Int32 × j_M) => f_M_flee_14b F  (fun x1 x2 x3 I => again (x1, x2, x3, I))  q.1 q.2.1 q.2.2.1 q.2.2.2) F (x1, x2, x3, I)
def f_M_flee (F : Nat) (x1 : Int32) (I : j_M) : Option (Int32 × j_M) := (if j_ok x1 100 = true then j_bd (f_M_findFar F (I 226 (j_ix x1)) I) (fun v4 I5 => f_M_flee_14 F x1 (-1) 1 I5) else none)
set_option maxRecDepth 100000 in
set_option maxHeartbeats 4000000 in
theorem k_M_flee_63 {p : Program} {l : Launch} {e : Env} {R : Room} {s : State} {m : MethodId} {args : Array Value} {below : List Frame} {meth : Method} {c : Code} {g : j_G} {b n : Nat} {P : j_R} {F : Nat} (hF : j_Fx 0 260 P) (hn : 260 ≤ n) (X : j_X p R s m args meth c g b 3 jb_M_flee 4 "PleasureGardenModel" none) {kb14 : Int32 → Int32 → Int32 → j_M → Option (Int32 × j_M)} (hkb14 : ∀ (x1 : Int32) (x2 : Int32) (x3 : Int32) (I : j_M) (r : Int32 × j_M), kb14 x1 x2 x3 I = some r → j_W p l e R s m args below meth c 4 g b n 0 0 (j_Qv g b n P below args s r) I P 14 [some (.ref (b + 215)), some (.int x1), some (.int x2), some (.int x3)] []) {x1 : Int32} {x2 : Int32} {x3 : Int32} {I : j_M} {r : Int32 × j_M}  (h : f_M_flee_63 F kb14 x1 x2 x3 I = some r) : j_W p l e R s m args below meth c 4 g b n 0 0 (j_Qv g b n P below args s r) I P 63 [some (.ref (b + 215)), some (.int x1), some (.int x2), some (.int x3)] [] := by
  unfold f_M_flee_63 at h
  obtain ⟨v1, ev1, h⟩ := j_ex h
  refine j_iinc (v := v1) (lv' := [some (.ref (b + 215)), some (.int x1), some (.int x2), some (.int v1)]) X jd_M_flee_63 rfl (by rw [ev1]; rfl) (by decide) rfl ?_
  refine j_goto (tgt := 14) X jd_M_flee_66 rfl ?_
  exact hkb14 _ _ _ _ _ h
set_option maxRecDepth 100000 in
set_option maxHeartbeats 4000000 in
theorem k_M_flee_61 {p : Program} {l : Launch} {e : Env} {R : Room} {s : State} {m : MethodId} {args : Array Value} {below : List Frame} {meth : Method} {c : Code} {g : j_G} {b n : Nat} {P : j_R} {F : Nat} (hF : j_Fx 0 260 P) (hn : 260 ≤ n) (X : j_X p R s m args meth c g b 3 jb_M_flee 4 "PleasureGardenModel" none) {kb14 : Int32 → Int32 → Int32 → j_M → Option (Int32 × j_M)} (hkb14 : ∀ (x1 : Int32) (x2 : Int32) (x3 : Int32) (I : j_M) (r : Int32 × j_M), kb14 x1 x2 x3 I = some r → j_W p l e R s m args below meth c 4 g b n 0 0 (j_Qv g b n P below args s r) I P 14 [some (.ref (b + 215)), some (.int x1), some (.int x2), some (.int x3)] []) {x1 : Int32} {x3 : Int32} {I : j_M} {r : Int32 × j_M}  (h : f_M_flee_61 F kb14 x1 x3 I = some r) : j_W p l e R s m args below meth c 4 g b n 0 0 (j_Qv g b n P below args s r) I P 61 [some (.ref (b + 215)), some (.int x1), none, some (.int x3)] [] := by
  unfold f_M_flee_61 at h
  refine j_iload_n X jd_M_flee_61 rfl rfl ?_
  refine j_istore_n (lv' := [some (.ref (b + 215)), some (.int x1), some (.int x3), some (.int x3)]) X jd_M_flee_62 rfl (by decide) rfl ?_
  exact k_M_flee_63 hF hn X hkb14 h
set_option maxRecDepth 100000 in
set_option maxHeartbeats 4000000 in
theorem k_M_flee_14b {p : Program} {l : Launch} {e : Env} {R : Room} {s : State} {m : MethodId} {args : Array Value} {below : List Frame} {meth : Method} {c : Code} {g : j_G} {b n : Nat} {P : j_R} {F : Nat} (hF : j_Fx 0 260 P) (hn : 260 ≤ n) (X : j_X p R s m args meth c g b 3 jb_M_flee 4 "PleasureGardenModel" none) {kb14 : Int32 → Int32 → Int32 → j_M → Option (Int32 × j_M)} (hkb14 : ∀ (x1 : Int32) (x2 : Int32) (x3 : Int32) (I : j_M) (r : Int32 × j_M), kb14 x1 x2 x3 I = some r → j_W p l e R s m args below meth c 4 g b n 0 0 (j_Qv g b n P below args s r) I P 14 [some (.ref (b + 215)), some (.int x1), some (.int x2), some (.int x3)] []) {x1 : Int32} {x2 : Int32} {x3 : Int32} {I : j_M} {r : Int32 × j_M}  (h : f_M_flee_14b F kb14 x1 x2 x3 I = some r) : j_W p l e R s m args below meth c 4 g b n 0 0 (j_Qv g b n P below args s r) I P 14 [some (.ref (b + 215)), some (.int x1), some (.int x2), some (.int x3)] [] := by
  unfold f_M_flee_14b at h
  refine j_iload_n X jd_M_flee_14 rfl rfl ?_
  refine j_aload_n X jd_M_flee_15 rfl rfl ?_
  refine j_get X jf_M_155 jk_12_3 js_215 (j_lt rfl hn) jd_M_flee_16 ?_
  refine j_icmp_ge (tgt := 69) X jd_M_flee_19 rfl h (fun h => ?_) (fun h => ?_)
  · refine j_iload_n X jd_M_flee_69 rfl rfl ?_
    refine j_if_lt (tgt := 85) X jd_M_flee_70 rfl h (fun h => ?_) (fun h => ?_)
    · exact j_vret X rfl jd_M_flee_85 h
    · refine j_aload_n X jd_M_flee_73 rfl rfl ?_
      refine j_iload_n X jd_M_flee_74 rfl rfl ?_
      refine j_iload_n X jd_M_flee_75 rfl rfl ?_
      refine j_aload_n X jd_M_flee_76 rfl rfl ?_
      refine j_getr X jf_M_26 jk_12_10 js_215 (j_lt rfl hn) (jp_215_10 hF) jd_M_flee_77 ?_
      refine j_iload_n X jd_M_flee_80 rfl rfl ?_
      refine j_iald X js_221 (j_lt rfl hn) jd_M_flee_81 h (fun _ h => ?_)
      refine j_callVv (As := [.int x1, .int x2, .int (I 221 (j_ix x2))]) (st := []) (c0 := 215) X h jc_M js_215 (j_lt rfl hn) ⟨jqc_M_goes, jqi_M_goes, jqv_M_goes, jqn_M⟩ jlm_M_209 jh_M_goes rfl (by decide) (by decide) (Nat.le_of_ble_eq_true rfl) ⟨Nat.zero_le _, Nat.zero_le _⟩ (fun v0 I0 h => k_M_goes (r := (v0, I0)) hF hn h) jd_M_flee_82 rfl (fun v2 I3 h => ?_)
      exact j_vret X rfl jd_M_flee_85 h
  · refine j_aload_n X jd_M_flee_22 rfl rfl ?_
    refine j_getr X jf_M_13 jk_12_5 js_215 (j_lt rfl hn) (jp_215_5 hF) jd_M_flee_23 ?_
    refine j_iload_n X jd_M_flee_26 rfl rfl ?_
    refine j_zald X js_217 (j_lt rfl hn) jd_M_flee_27 h (fun _ h => ?_)
    refine j_if_eq (tgt := 63) X jd_M_flee_28 rfl h (fun h => ?_) (fun h => ?_)
    · exact k_M_flee_63 hF hn X hkb14 h
    · refine j_aload_n X jd_M_flee_31 rfl rfl ?_
      refine j_getr X jf_M_26 jk_12_10 js_215 (j_lt rfl hn) (jp_215_10 hF) jd_M_flee_32 ?_
      refine j_iload_n X jd_M_flee_35 rfl rfl ?_
      refine j_iald X js_221 (j_lt rfl hn) jd_M_flee_36 h (fun _ h => ?_)
      refine j_ldc (v := 1000000) X jlc_M_166 jd_M_flee_37 ?_
      refine j_icmp_ge (tgt := 63) X jd_M_flee_39 rfl h (fun h => ?_) (fun h => ?_)
      · exact k_M_flee_63 hF hn X hkb14 h
      · refine j_iload_n X jd_M_flee_42 rfl rfl ?_
        refine j_if_lt (tgt := 61) X jd_M_flee_43 rfl h (fun h => ?_) (fun h => ?_)
        · refine j_sub [true, true, false, true] (lv' := [some (.ref (b + 215)), some (.int x1), none, some (.int x3)]) rfl ?_
          exact k_M_flee_61 hF hn X hkb14 h
        · refine j_aload_n X jd_M_flee_46 rfl rfl ?_
          refine j_getr X jf_M_26 jk_12_10 js_215 (j_lt rfl hn) (jp_215_10 hF) jd_M_flee_47 ?_
          refine j_iload_n X jd_M_flee_50 rfl rfl ?_
          refine j_iald X js_221 (j_lt rfl hn) jd_M_flee_51 h (fun _ h => ?_)
          refine j_aload_n X jd_M_flee_52 rfl rfl ?_
          refine j_getr X jf_M_26 jk_12_10 js_215 (j_lt rfl hn) (jp_215_10 hF) jd_M_flee_53 ?_
          refine j_iload_n X jd_M_flee_56 rfl rfl ?_
          refine j_iald X js_221 (j_lt rfl hn) jd_M_flee_57 h (fun _ h => ?_)
          refine j_icmp_ge (tgt := 63) X jd_M_flee_58 rfl h (fun h => ?_) (fun h => ?_)
          · exact k_M_flee_63 hF hn X hkb14 h
          · refine j_sub [true, true, false, true] (lv' := [some (.ref (b + 215)), some (.int x1), none, some (.int x3)]) rfl ?_
            exact k_M_flee_61 hF hn X hkb14 h
set_option maxRecDepth 100000 in
set_option maxHeartbeats 4000000 in
theorem k_M_flee_14 {p : Program} {l : Launch} {e : Env} {R : Room} {s : State} {m : MethodId} {args : Array Value} {below : List Frame} {meth : Method} {c : Code} {g : j_G} {b n : Nat} {P : j_R} {F : Nat} (hF : j_Fx 0 260 P) (hn : 260 ≤ n) (X : j_X p R s m args meth c g b 3 jb_M_flee 4 "PleasureGardenModel" none)  {x1 : Int32} {x2 : Int32} {x3 : Int32} {I : j_M} {r : Int32 × j_M} (h : f_M_flee_14 F x1 x2 x3 I = some r) : j_W p l e R s m args below meth c 4 g b n 0 0 (j_Qv g b n P below args s r) I P 14 [some (.ref (b + 215)), some (.int x1), some (.int x2), some (.int x3)] [] := by
  refine j_loop (G := fun (q : Int32 × Int32 × Int32 × j_M) (r : Int32 × j_M) => j_W p l e R s m args below meth c 4 g b n 0 0 (j_Qv g b n P below args s r) q.2.2.2 P 14 [some (.ref (b + 215)), some (.int (q.1)), some (.int (q.2.1)), some (.int (q.2.2.1))] []) ?_ F (x1, x2, x3, I) r h
  intro again hrec0 q r h
  exact k_M_flee_14b hF hn X (fun x1 x2 x3 I r h => hrec0 (x1, x2, x3, I) r h)  h
set_option maxRecDepth 100000 in
set_option maxHeartbeats 4000000 in
theorem k_M_flee {l : Launch} {g : j_G} {b n : Nat} {P : j_R} {F : Nat} (hF : j_Fx 0 260 P) (hn : 260 ≤ n) {x1 : Int32} {I : j_M} {r : Int32 × j_M}  (h : f_M_flee F x1 I = some r) : j_Met l g b n P 3 jy_M_flee jb_M_flee 4 none [.ref (b + 215), .int x1] I r.2 none := by
  unfold f_M_flee at h
  refine j_enter (plainFor_of_name (by decide)) (Nat.le_of_ble_eq_true rfl) [some (.ref (b + 215)), some (.int x1), none, none] rfl ?_
  intro p e R s m args below meth c X0 hnm hRc hRs
  have X : j_X p R s m args meth c g b 3 jb_M_flee 4 "PleasureGardenModel" none := X0
  clear X0
  refine j_aload_n X jd_M_flee_0 rfl rfl ?_
  refine j_aload_n X jd_M_flee_1 rfl rfl ?_
  refine j_getr X jf_M_41 jk_12_16 js_215 (j_lt rfl hn) (jp_215_16 hF) jd_M_flee_2 ?_
  refine j_iload_n X jd_M_flee_5 rfl rfl ?_
  refine j_iald X js_226 (j_lt rfl hn) jd_M_flee_6 h (fun _ h => ?_)
  refine j_callVv (As := [.int (I 226 (j_ix x1))]) (st := []) (c0 := 215) X h jc_M js_215 (j_lt rfl hn) ⟨jqc_M_findFar, jqi_M_findFar, jqv_M_findFar, jqn_M⟩ jlm_M_167 jh_M_findFar rfl (by decide) (by decide) (Nat.le_of_ble_eq_true rfl) ⟨Nat.zero_le _, Nat.zero_le _⟩ (fun v0 I0 h => k_M_findFar (r := (v0, I0)) hF hn h) jd_M_flee_7 rfl (fun v4 I5 h => ?_)
  refine j_iconst (v := (-1)) X jd_M_flee_10 (by decide) ?_
  refine j_istore_n (lv' := [some (.ref (b + 215)), some (.int x1), some (.int (-1)), none]) X jd_M_flee_11 rfl (by decide) rfl ?_
  refine j_iconst (v := 1) X jd_M_flee_12 (by decide) ?_
  refine j_istore_n (lv' := [some (.ref (b + 215)), some (.int x1), some (.int (-1)), some (.int 1)]) X jd_M_flee_13 rfl (by decide) rfl ?_
  exact k_M_flee_14 hF hn X h
-- PleasureGardenModel.price(II)I
theorem jd_M_price_0 : decode jb_M_price 0 = .ok (.iload_n 1, 1) := by decide +kernel
theorem jd_M_price_1 : decode jb_M_price 1 = .ok (.iconst 0, 1) := by decide +kernel
theorem jd_M_price_2 : decode jb_M_price 2 = .ok (.iconst 2, 1) := by decide +kernel
theorem jd_M_price_3 : decode jb_M_price 3 = .ok (.invokestatic 158, 3) := by decide +kernel
theorem jd_M_price_6 : decode jb_M_price 6 = .ok (.ifCond .eq 10, 3) := by decide +kernel
theorem jd_M_price_9 : decode jb_M_price 9 = .ok (.iload_n 2, 1) := by decide +kernel
theorem jd_M_price_10 : decode jb_M_price 10 = .ok (.invokestatic 307, 3) := by decide +kernel
theorem jd_M_price_13 : decode jb_M_price 13 = .ok (.ifCond .ne 5, 3) := by decide +kernel
theorem jd_M_price_16 : decode jb_M_price 16 = .ok (.iconst (-1), 1) := by decide +kernel
theorem jd_M_price_17 : decode jb_M_price 17 = .ok (.ireturn, 1) := by decide +kernel
theorem jd_M_price_18 : decode jb_M_price 18 = .ok (.aload_n 0, 1) := by decide +kernel
theorem jd_M_price_19 : decode jb_M_price 19 = .ok (.getfield 310, 3) := by decide +kernel
theorem jd_M_price_22 : decode jb_M_price 22 = .ok (.bipush 30, 2) := by decide +kernel
theorem jd_M_price_24 : decode jb_M_price 24 = .ok (.if_icmp .ne 6, 3) := by decide +kernel
theorem jd_M_price_27 : decode jb_M_price 27 = .ok (.bipush (-3), 2) := by decide +kernel
theorem jd_M_price_29 : decode jb_M_price 29 = .ok (.ireturn, 1) := by decide +kernel
theorem jd_M_price_30 : decode jb_M_price 30 = .ok (.aload_n 0, 1) := by decide +kernel
theorem jd_M_price_31 : decode jb_M_price 31 = .ok (.aload_n 0, 1) := by decide +kernel
theorem jd_M_price_32 : decode jb_M_price 32 = .ok (.getfield 310, 3) := by decide +kernel
theorem jd_M_price_35 : decode jb_M_price 35 = .ok (.invokevirtual 313, 3) := by decide +kernel
theorem jd_M_price_38 : decode jb_M_price 38 = .ok (.istore_n 3, 1) := by decide +kernel
theorem jd_M_price_39 : decode jb_M_price 39 = .ok (.aload_n 0, 1) := by decide +kernel
theorem jd_M_price_40 : decode jb_M_price 40 = .ok (.iconst 0, 1) := by decide +kernel
theorem jd_M_price_41 : decode jb_M_price 41 = .ok (.putfield 273, 3) := by decide +kernel
theorem jd_M_price_44 : decode jb_M_price 44 = .ok (.iload_n 3, 1) := by decide +kernel
theorem jd_M_price_45 : decode jb_M_price 45 = .ok (.ifCond .lt 8, 3) := by decide +kernel
theorem jd_M_price_48 : decode jb_M_price 48 = .ok (.bipush (-100), 2) := by decide +kernel
theorem jd_M_price_50 : decode jb_M_price 50 = .ok (.iload_n 3, 1) := by decide +kernel
theorem jd_M_price_51 : decode jb_M_price 51 = .ok (.isub, 1) := by decide +kernel
theorem jd_M_price_52 : decode jb_M_price 52 = .ok (.ireturn, 1) := by decide +kernel
theorem jd_M_price_53 : decode jb_M_price 53 = .ok (.aload_n 0, 1) := by decide +kernel
theorem jd_M_price_54 : decode jb_M_price 54 = .ok (.getfield 110, 3) := by decide +kernel
theorem jd_M_price_57 : decode jb_M_price 57 = .ok (.aload_n 0, 1) := by decide +kernel
theorem jd_M_price_58 : decode jb_M_price 58 = .ok (.getfield 310, 3) := by decide +kernel
theorem jd_M_price_61 : decode jb_M_price 61 = .ok (.iload_n 1, 1) := by decide +kernel
theorem jd_M_price_62 : decode jb_M_price 62 = .ok (.iastore, 1) := by decide +kernel
theorem jd_M_price_63 : decode jb_M_price 63 = .ok (.aload_n 0, 1) := by decide +kernel
theorem jd_M_price_64 : decode jb_M_price 64 = .ok (.getfield 113, 3) := by decide +kernel
theorem jd_M_price_67 : decode jb_M_price 67 = .ok (.aload_n 0, 1) := by decide +kernel
theorem jd_M_price_68 : decode jb_M_price 68 = .ok (.getfield 310, 3) := by decide +kernel
theorem jd_M_price_71 : decode jb_M_price 71 = .ok (.aload_n 0, 1) := by decide +kernel
theorem jd_M_price_72 : decode jb_M_price 72 = .ok (.getfield 316, 3) := by decide +kernel
theorem jd_M_price_75 : decode jb_M_price 75 = .ok (.iastore, 1) := by decide +kernel
theorem jd_M_price_76 : decode jb_M_price 76 = .ok (.aload_n 0, 1) := by decide +kernel
theorem jd_M_price_77 : decode jb_M_price 77 = .ok (.getfield 116, 3) := by decide +kernel
theorem jd_M_price_80 : decode jb_M_price 80 = .ok (.aload_n 0, 1) := by decide +kernel
theorem jd_M_price_81 : decode jb_M_price 81 = .ok (.getfield 310, 3) := by decide +kernel
theorem jd_M_price_84 : decode jb_M_price 84 = .ok (.iload_n 2, 1) := by decide +kernel
theorem jd_M_price_85 : decode jb_M_price 85 = .ok (.iastore, 1) := by decide +kernel
theorem jd_M_price_86 : decode jb_M_price 86 = .ok (.aload_n 0, 1) := by decide +kernel
theorem jd_M_price_87 : decode jb_M_price 87 = .ok (.getfield 119, 3) := by decide +kernel
theorem jd_M_price_90 : decode jb_M_price 90 = .ok (.aload_n 0, 1) := by decide +kernel
theorem jd_M_price_91 : decode jb_M_price 91 = .ok (.getfield 310, 3) := by decide +kernel
theorem jd_M_price_94 : decode jb_M_price 94 = .ok (.aload_n 0, 1) := by decide +kernel
theorem jd_M_price_95 : decode jb_M_price 95 = .ok (.getfield 276, 3) := by decide +kernel
theorem jd_M_price_98 : decode jb_M_price 98 = .ok (.iastore, 1) := by decide +kernel
theorem jd_M_price_99 : decode jb_M_price 99 = .ok (.aload_n 0, 1) := by decide +kernel
theorem jd_M_price_100 : decode jb_M_price 100 = .ok (.dup, 1) := by decide +kernel
theorem jd_M_price_101 : decode jb_M_price 101 = .ok (.getfield 310, 3) := by decide +kernel
theorem jd_M_price_104 : decode jb_M_price 104 = .ok (.iconst 1, 1) := by decide +kernel
theorem jd_M_price_105 : decode jb_M_price 105 = .ok (.iadd, 1) := by decide +kernel
theorem jd_M_price_106 : decode jb_M_price 106 = .ok (.putfield 310, 3) := by decide +kernel
theorem jd_M_price_109 : decode jb_M_price 109 = .ok (.aload_n 0, 1) := by decide +kernel
theorem jd_M_price_110 : decode jb_M_price 110 = .ok (.getfield 310, 3) := by decide +kernel
theorem jd_M_price_113 : decode jb_M_price 113 = .ok (.iconst 1, 1) := by decide +kernel
theorem jd_M_price_114 : decode jb_M_price 114 = .ok (.isub, 1) := by decide +kernel
theorem jd_M_price_115 : decode jb_M_price 115 = .ok (.ireturn, 1) := by decide +kernel
def f_M_price (F : Nat) (x1 : Int32) (x2 : Int32) (I : j_M) : Option (Int32 × j_M) := j_bd (f_M_among F x1 0 2 I) (fun v1 I2 => (if v1 = 0 then some ((-1), I2) else j_bd (f_M_isNight F x2 I2) (fun v3 I4 => (if v3 = 0 then some ((-1), I4) else (if (I4 215 52) = 30 then some ((-3), I4) else j_bd (f_M_parse F (I4 215 52) I4) (fun v5 I6 => j_let (j_wr I6 215 51 0) (fun I7 => (if v5 < 0 then (if j_ok (I7 215 52) 30 = true then j_let (j_wr I7 246 (j_ix (I7 215 52)) x1) (fun I8 => (if j_ok (I8 215 52) 30 = true then j_let (j_wr I8 247 (j_ix (I8 215 52)) (I8 215 1)) (fun I9 => (if j_ok (I9 215 52) 30 = true then j_let (j_wr I9 248 (j_ix (I9 215 52)) x2) (fun I10 => (if j_ok (I10 215 52) 30 = true then j_let (j_wr I10 249 (j_ix (I10 215 52)) (I10 215 61)) (fun I11 => j_let (j_wr I11 215 52 ((I11 215 52) + 1)) (fun I12 => some ((I12 215 52) - 1, I12))) else none)) else none)) else none)) else none) else some ((-100) - v5, I7)))))))))
set_option maxRecDepth 100000 in
set_option maxHeartbeats 4000000 in
theorem k_M_price {l : Launch} {g : j_G} {b n : Nat} {P : j_R} {F : Nat} (hF : j_Fx 0 260 P) (hn : 260 ≤ n) {x1 : Int32} {x2 : Int32} {I : j_M} {r : Int32 × j_M}  (h : f_M_price F x1 x2 I = some r) : j_Met l g b n P 3 jy_M_price jb_M_price 4 (some .int) [.ref (b + 215), .int x1, .int x2] I r.2 (some (.int r.1)) := by
  unfold f_M_price at h
  refine j_enter (plainFor_of_name (by decide)) (Nat.le_of_ble_eq_true rfl) [some (.ref (b + 215)), some (.int x1), some (.int x2), none] rfl ?_
  intro p e R s m args below meth c X0 hnm hRc hRs
  have X : j_X p R s m args meth c g b 3 jb_M_price 4 "PleasureGardenModel" (some .int) := X0
  clear X0
  refine j_iload_n X jd_M_price_0 rfl rfl ?_
  refine j_iconst (v := 0) X jd_M_price_1 (by decide) ?_
  refine j_iconst (v := 2) X jd_M_price_2 (by decide) ?_
  refine j_callSi (As := [.int x1, .int 0, .int 2]) (st := []) X h ⟨jqc_M_among, jqs_M_among, jqn_M⟩ jlm_M_158 jh_M_among.2 rfl (by decide) (by decide) (Nat.le_of_ble_eq_true rfl) ⟨Nat.zero_le _, Nat.zero_le _⟩ (fun v0 I0 h => k_M_among (r := (v0, I0)) hF hn h) jd_M_price_3 rfl (fun v1 I2 h => ?_)
  refine j_if_eq (tgt := 16) X jd_M_price_6 rfl h (fun h => ?_) (fun h => ?_)
  · refine j_iconst (v := (-1)) X jd_M_price_16 (by decide) ?_
    exact j_iret X rfl jd_M_price_17 h
  · refine j_iload_n X jd_M_price_9 rfl rfl ?_
    refine j_callSi (As := [.int x2]) (st := []) X h ⟨jqc_M_isNight, jqs_M_isNight, jqn_M⟩ jlm_M_307 jh_M_isNight.2 rfl (by decide) (by decide) (Nat.le_of_ble_eq_true rfl) ⟨Nat.zero_le _, Nat.zero_le _⟩ (fun v0 I0 h => k_M_isNight (r := (v0, I0)) hF hn h) jd_M_price_10 rfl (fun v3 I4 h => ?_)
    refine j_if_ne (tgt := 18) X jd_M_price_13 rfl h (fun h => ?_) (fun h => ?_)
    · refine j_iconst (v := (-1)) X jd_M_price_16 (by decide) ?_
      exact j_iret X rfl jd_M_price_17 h
    · refine j_aload_n X jd_M_price_18 rfl rfl ?_
      refine j_get X jf_M_310 jk_12_52 js_215 (j_lt rfl hn) jd_M_price_19 ?_
      refine j_bipush (v := 30) X jd_M_price_22 (by decide) ?_
      refine j_icmp_ne (tgt := 30) X jd_M_price_24 rfl h (fun h => ?_) (fun h => ?_)
      · refine j_bipush (v := (-3)) X jd_M_price_27 (by decide) ?_
        exact j_iret X rfl jd_M_price_29 h
      · refine j_aload_n X jd_M_price_30 rfl rfl ?_
        refine j_aload_n X jd_M_price_31 rfl rfl ?_
        refine j_get X jf_M_310 jk_12_52 js_215 (j_lt rfl hn) jd_M_price_32 ?_
        refine j_callVi (As := [.int (I4 215 52)]) (st := []) (c0 := 215) X h jc_M js_215 (j_lt rfl hn) ⟨jqc_M_parse, jqi_M_parse, jqv_M_parse, jqn_M⟩ jlm_M_313 jh_M_parse rfl (by decide) (by decide) (Nat.le_of_ble_eq_true rfl) ⟨Nat.zero_le _, Nat.zero_le _⟩ (fun v0 I0 h => k_M_parse (r := (v0, I0)) hF hn h) jd_M_price_35 rfl (fun v5 I6 h => ?_)
        refine j_istore_n (lv' := [some (.ref (b + 215)), some (.int x1), some (.int x2), some (.int v5)]) X jd_M_price_38 rfl (by decide) rfl ?_
        refine j_aload_n X jd_M_price_39 rfl rfl ?_
        refine j_iconst (v := 0) X jd_M_price_40 (by decide) ?_
        refine j_puti X jt_M jto_M jn_M jf_M_273 jk_12_51 js_215 (j_lt rfl hn) (Or.inl rfl) rfl jd_M_price_41 ?_
        refine j_mem h (fun I7 h => ?_)
        refine j_iload_n X jd_M_price_44 rfl rfl ?_
        refine j_if_lt (tgt := 53) X jd_M_price_45 rfl h (fun h => ?_) (fun h => ?_)
        · refine j_aload_n X jd_M_price_53 rfl rfl ?_
          refine j_getr X jf_M_110 jk_12_53 js_215 (j_lt rfl hn) (jp_215_53 hF) jd_M_price_54 ?_
          refine j_aload_n X jd_M_price_57 rfl rfl ?_
          refine j_get X jf_M_310 jk_12_52 js_215 (j_lt rfl hn) jd_M_price_58 ?_
          refine j_iload_n X jd_M_price_61 rfl rfl ?_
          refine j_iast X js_246 (j_lt rfl hn) jd_M_price_62 h (fun h => ?_)
          refine j_mem h (fun I8 h => ?_)
          refine j_aload_n X jd_M_price_63 rfl rfl ?_
          refine j_getr X jf_M_113 jk_12_54 js_215 (j_lt rfl hn) (jp_215_54 hF) jd_M_price_64 ?_
          refine j_aload_n X jd_M_price_67 rfl rfl ?_
          refine j_get X jf_M_310 jk_12_52 js_215 (j_lt rfl hn) jd_M_price_68 ?_
          refine j_aload_n X jd_M_price_71 rfl rfl ?_
          refine j_get X jf_M_316 jk_12_1 js_215 (j_lt rfl hn) jd_M_price_72 ?_
          refine j_iast X js_247 (j_lt rfl hn) jd_M_price_75 h (fun h => ?_)
          refine j_mem h (fun I9 h => ?_)
          refine j_aload_n X jd_M_price_76 rfl rfl ?_
          refine j_getr X jf_M_116 jk_12_55 js_215 (j_lt rfl hn) (jp_215_55 hF) jd_M_price_77 ?_
          refine j_aload_n X jd_M_price_80 rfl rfl ?_
          refine j_get X jf_M_310 jk_12_52 js_215 (j_lt rfl hn) jd_M_price_81 ?_
          refine j_iload_n X jd_M_price_84 rfl rfl ?_
          refine j_iast X js_248 (j_lt rfl hn) jd_M_price_85 h (fun h => ?_)
          refine j_mem h (fun I10 h => ?_)
          refine j_aload_n X jd_M_price_86 rfl rfl ?_
          refine j_getr X jf_M_119 jk_12_56 js_215 (j_lt rfl hn) (jp_215_56 hF) jd_M_price_87 ?_
          refine j_aload_n X jd_M_price_90 rfl rfl ?_
          refine j_get X jf_M_310 jk_12_52 js_215 (j_lt rfl hn) jd_M_price_91 ?_
          refine j_aload_n X jd_M_price_94 rfl rfl ?_
          refine j_get X jf_M_276 jk_12_61 js_215 (j_lt rfl hn) jd_M_price_95 ?_
          refine j_iast X js_249 (j_lt rfl hn) jd_M_price_98 h (fun h => ?_)
          refine j_mem h (fun I11 h => ?_)
          refine j_aload_n X jd_M_price_99 rfl rfl ?_
          refine j_dup X jd_M_price_100 rfl ?_
          refine j_get X jf_M_310 jk_12_52 js_215 (j_lt rfl hn) jd_M_price_101 ?_
          refine j_iconst (v := 1) X jd_M_price_104 (by decide) ?_
          refine j_iadd X jd_M_price_105 ?_
          refine j_puti X jt_M jto_M jn_M jf_M_310 jk_12_52 js_215 (j_lt rfl hn) (Or.inl rfl) rfl jd_M_price_106 ?_
          refine j_mem h (fun I12 h => ?_)
          refine j_aload_n X jd_M_price_109 rfl rfl ?_
          refine j_get X jf_M_310 jk_12_52 js_215 (j_lt rfl hn) jd_M_price_110 ?_
          refine j_iconst (v := 1) X jd_M_price_113 (by decide) ?_
          refine j_isub X jd_M_price_114 ?_
          exact j_iret X rfl jd_M_price_115 h
        · refine j_bipush (v := (-100)) X jd_M_price_48 (by decide) ?_
          refine j_iload_n X jd_M_price_50 rfl rfl ?_
          refine j_isub X jd_M_price_51 ?_
          exact j_iret X rfl jd_M_price_52 h
-- PleasureGardenModel.tonight(III)I
theorem jd_M_tonight_0 : decode jb_M_tonight 0 = .ok (.aload_n 0, 1) := by decide +kernel
theorem jd_M_tonight_1 : decode jb_M_tonight 1 = .ok (.iload_n 1, 1) := by decide +kernel
theorem jd_M_tonight_2 : decode jb_M_tonight 2 = .ok (.aload_n 0, 1) := by decide +kernel
theorem jd_M_tonight_3 : decode jb_M_tonight 3 = .ok (.getfield 316, 3) := by decide +kernel
theorem jd_M_tonight_6 : decode jb_M_tonight 6 = .ok (.aload_n 0, 1) := by decide +kernel
theorem jd_M_tonight_7 : decode jb_M_tonight 7 = .ok (.getfield 316, 3) := by decide +kernel
theorem jd_M_tonight_10 : decode jb_M_tonight 10 = .ok (.invokevirtual 319, 3) := by decide +kernel
theorem jd_M_tonight_13 : decode jb_M_tonight 13 = .ok (.istore 4, 2) := by decide +kernel
theorem jd_M_tonight_15 : decode jb_M_tonight 15 = .ok (.iload 4, 2) := by decide +kernel
theorem jd_M_tonight_17 : decode jb_M_tonight 17 = .ok (.ifCond .ge 7, 3) := by decide +kernel
theorem jd_M_tonight_20 : decode jb_M_tonight 20 = .ok (.iconst 0, 1) := by decide +kernel
theorem jd_M_tonight_21 : decode jb_M_tonight 21 = .ok (.goto 11, 3) := by decide +kernel
theorem jd_M_tonight_24 : decode jb_M_tonight 24 = .ok (.aload_n 0, 1) := by decide +kernel
theorem jd_M_tonight_25 : decode jb_M_tonight 25 = .ok (.iload 4, 2) := by decide +kernel
theorem jd_M_tonight_27 : decode jb_M_tonight 27 = .ok (.iload_n 2, 1) := by decide +kernel
theorem jd_M_tonight_28 : decode jb_M_tonight 28 = .ok (.iload_n 3, 1) := by decide +kernel
theorem jd_M_tonight_29 : decode jb_M_tonight 29 = .ok (.invokevirtual 335, 3) := by decide +kernel
theorem jd_M_tonight_32 : decode jb_M_tonight 32 = .ok (.ireturn, 1) := by decide +kernel
def f_M_tonight (F : Nat) (x1 : Int32) (x2 : Int32) (x3 : Int32) (I : j_M) : Option (Int32 × j_M) := j_bd (f_M_forceOn F x1 (I 215 1) (I 215 1) I) (fun v1 I2 => (if 0 ≤ v1 then j_bd (f_M_coinsBy F v1 x2 x3 I2) (fun v3 I4 => some (v3, I4)) else some (0, I2)))
set_option maxRecDepth 100000 in
set_option maxHeartbeats 4000000 in
theorem k_M_tonight {l : Launch} {g : j_G} {b n : Nat} {P : j_R} {F : Nat} (hF : j_Fx 0 260 P) (hn : 260 ≤ n) {x1 : Int32} {x2 : Int32} {x3 : Int32} {I : j_M} {r : Int32 × j_M}  (h : f_M_tonight F x1 x2 x3 I = some r) : j_Met l g b n P 3 jy_M_tonight jb_M_tonight 5 (some .int) [.ref (b + 215), .int x1, .int x2, .int x3] I r.2 (some (.int r.1)) := by
  unfold f_M_tonight at h
  refine j_enter (plainFor_of_name (by decide)) (Nat.le_of_ble_eq_true rfl) [some (.ref (b + 215)), some (.int x1), some (.int x2), some (.int x3), none] rfl ?_
  intro p e R s m args below meth c X0 hnm hRc hRs
  have X : j_X p R s m args meth c g b 3 jb_M_tonight 5 "PleasureGardenModel" (some .int) := X0
  clear X0
  refine j_aload_n X jd_M_tonight_0 rfl rfl ?_
  refine j_iload_n X jd_M_tonight_1 rfl rfl ?_
  refine j_aload_n X jd_M_tonight_2 rfl rfl ?_
  refine j_get X jf_M_316 jk_12_1 js_215 (j_lt rfl hn) jd_M_tonight_3 ?_
  refine j_aload_n X jd_M_tonight_6 rfl rfl ?_
  refine j_get X jf_M_316 jk_12_1 js_215 (j_lt rfl hn) jd_M_tonight_7 ?_
  refine j_callVi (As := [.int x1, .int (I 215 1), .int (I 215 1)]) (st := []) (c0 := 215) X h jc_M js_215 (j_lt rfl hn) ⟨jqc_M_forceOn, jqi_M_forceOn, jqv_M_forceOn, jqn_M⟩ jlm_M_319 jh_M_forceOn rfl (by decide) (by decide) (Nat.le_of_ble_eq_true rfl) ⟨Nat.zero_le _, Nat.zero_le _⟩ (fun v0 I0 h => k_M_forceOn (r := (v0, I0)) hF hn h) jd_M_tonight_10 rfl (fun v1 I2 h => ?_)
  refine j_istore (lv' := [some (.ref (b + 215)), some (.int x1), some (.int x2), some (.int x3), some (.int v1)]) X jd_M_tonight_13 (by decide) rfl ?_
  refine j_iload X jd_M_tonight_15 rfl ?_
  refine j_if_ge (tgt := 24) X jd_M_tonight_17 rfl h (fun h => ?_) (fun h => ?_)
  · refine j_aload_n X jd_M_tonight_24 rfl rfl ?_
    refine j_iload X jd_M_tonight_25 rfl ?_
    refine j_iload_n X jd_M_tonight_27 rfl rfl ?_
    refine j_iload_n X jd_M_tonight_28 rfl rfl ?_
    refine j_callVi (As := [.int v1, .int x2, .int x3]) (st := []) (c0 := 215) X h jc_M js_215 (j_lt rfl hn) ⟨jqc_M_coinsBy, jqi_M_coinsBy, jqv_M_coinsBy, jqn_M⟩ jlm_M_335 jh_M_coinsBy rfl (by decide) (by decide) (Nat.le_of_ble_eq_true rfl) ⟨Nat.zero_le _, Nat.zero_le _⟩ (fun v0 I0 h => k_M_coinsBy (r := (v0, I0)) hF hn h) jd_M_tonight_29 rfl (fun v3 I4 h => ?_)
    exact j_iret X rfl jd_M_tonight_32 h
  · refine j_iconst (v := 0) X jd_M_tonight_20 (by decide) ?_
    refine j_goto (tgt := 32) X jd_M_tonight_21 rfl ?_
    exact j_iret X rfl jd_M_tonight_32 h
-- PleasureGardenModel.gives(III)I
theorem jd_M_gives_0 : decode jb_M_gives 0 = .ok (.iload_n 1, 1) := by decide +kernel
theorem jd_M_gives_1 : decode jb_M_gives 1 = .ok (.iconst 0, 1) := by decide +kernel
theorem jd_M_gives_2 : decode jb_M_gives 2 = .ok (.aload_n 0, 1) := by decide +kernel
theorem jd_M_gives_3 : decode jb_M_gives 3 = .ok (.getfield 310, 3) := by decide +kernel
theorem jd_M_gives_6 : decode jb_M_gives 6 = .ok (.iconst 1, 1) := by decide +kernel
theorem jd_M_gives_7 : decode jb_M_gives 7 = .ok (.isub, 1) := by decide +kernel
theorem jd_M_gives_8 : decode jb_M_gives 8 = .ok (.invokestatic 158, 3) := by decide +kernel
theorem jd_M_gives_11 : decode jb_M_gives 11 = .ok (.ifCond .eq 31, 3) := by decide +kernel
theorem jd_M_gives_14 : decode jb_M_gives 14 = .ok (.aload_n 0, 1) := by decide +kernel
theorem jd_M_gives_15 : decode jb_M_gives 15 = .ok (.iload_n 2, 1) := by decide +kernel
theorem jd_M_gives_16 : decode jb_M_gives 16 = .ok (.invokevirtual 206, 3) := by decide +kernel
theorem jd_M_gives_19 : decode jb_M_gives 19 = .ok (.ifCond .eq 23, 3) := by decide +kernel
theorem jd_M_gives_22 : decode jb_M_gives 22 = .ok (.iload_n 3, 1) := by decide +kernel
theorem jd_M_gives_23 : decode jb_M_gives 23 = .ok (.iconst 0, 1) := by decide +kernel
theorem jd_M_gives_24 : decode jb_M_gives 24 = .ok (.bipush 99, 2) := by decide +kernel
theorem jd_M_gives_26 : decode jb_M_gives 26 = .ok (.invokestatic 158, 3) := by decide +kernel
theorem jd_M_gives_29 : decode jb_M_gives 29 = .ok (.ifCond .eq 13, 3) := by decide +kernel
theorem jd_M_gives_32 : decode jb_M_gives 32 = .ok (.aload_n 0, 1) := by decide +kernel
theorem jd_M_gives_33 : decode jb_M_gives 33 = .ok (.iload_n 1, 1) := by decide +kernel
theorem jd_M_gives_34 : decode jb_M_gives 34 = .ok (.iload_n 2, 1) := by decide +kernel
theorem jd_M_gives_35 : decode jb_M_gives 35 = .ok (.iload_n 3, 1) := by decide +kernel
theorem jd_M_gives_36 : decode jb_M_gives 36 = .ok (.invokevirtual 335, 3) := by decide +kernel
theorem jd_M_gives_39 : decode jb_M_gives 39 = .ok (.goto 6, 3) := by decide +kernel
theorem jd_M_gives_42 : decode jb_M_gives 42 = .ok (.ldc_w 338, 3) := by decide +kernel
theorem jd_M_gives_45 : decode jb_M_gives 45 = .ok (.ireturn, 1) := by decide +kernel
def f_M_gives (F : Nat) (x1 : Int32) (x2 : Int32) (x3 : Int32) (I : j_M) : Option (Int32 × j_M) := j_bd (f_M_among F x1 0 ((I 215 52) - 1) I) (fun v1 I2 => (if v1 = 0 then some ((-2000000000), I2) else j_bd (f_M_isParty F x2 I2) (fun v3 I4 => (if v3 = 0 then some ((-2000000000), I4) else j_bd (f_M_among F x3 0 99 I4) (fun v5 I6 => (if v5 = 0 then some ((-2000000000), I6) else j_bd (f_M_coinsBy F x1 x2 x3 I6) (fun v7 I8 => some (v7, I8))))))))
set_option maxRecDepth 100000 in
set_option maxHeartbeats 4000000 in
theorem k_M_gives {l : Launch} {g : j_G} {b n : Nat} {P : j_R} {F : Nat} (hF : j_Fx 0 260 P) (hn : 260 ≤ n) {x1 : Int32} {x2 : Int32} {x3 : Int32} {I : j_M} {r : Int32 × j_M}  (h : f_M_gives F x1 x2 x3 I = some r) : j_Met l g b n P 3 jy_M_gives jb_M_gives 4 (some .int) [.ref (b + 215), .int x1, .int x2, .int x3] I r.2 (some (.int r.1)) := by
  unfold f_M_gives at h
  refine j_enter (plainFor_of_name (by decide)) (Nat.le_of_ble_eq_true rfl) [some (.ref (b + 215)), some (.int x1), some (.int x2), some (.int x3)] rfl ?_
  intro p e R s m args below meth c X0 hnm hRc hRs
  have X : j_X p R s m args meth c g b 3 jb_M_gives 4 "PleasureGardenModel" (some .int) := X0
  clear X0
  refine j_iload_n X jd_M_gives_0 rfl rfl ?_
  refine j_iconst (v := 0) X jd_M_gives_1 (by decide) ?_
  refine j_aload_n X jd_M_gives_2 rfl rfl ?_
  refine j_get X jf_M_310 jk_12_52 js_215 (j_lt rfl hn) jd_M_gives_3 ?_
  refine j_iconst (v := 1) X jd_M_gives_6 (by decide) ?_
  refine j_isub X jd_M_gives_7 ?_
  refine j_callSi (As := [.int x1, .int 0, .int ((I 215 52) - 1)]) (st := []) X h ⟨jqc_M_among, jqs_M_among, jqn_M⟩ jlm_M_158 jh_M_among.2 rfl (by decide) (by decide) (Nat.le_of_ble_eq_true rfl) ⟨Nat.zero_le _, Nat.zero_le _⟩ (fun v0 I0 h => k_M_among (r := (v0, I0)) hF hn h) jd_M_gives_8 rfl (fun v1 I2 h => ?_)
  refine j_if_eq (tgt := 42) X jd_M_gives_11 rfl h (fun h => ?_) (fun h => ?_)
  · refine j_ldcw (v := (-2000000000)) X jlc_M_338 jd_M_gives_42 ?_
    exact j_iret X rfl jd_M_gives_45 h
  · refine j_aload_n X jd_M_gives_14 rfl rfl ?_
    refine j_iload_n X jd_M_gives_15 rfl rfl ?_
    refine j_callVi (As := [.int x2]) (st := []) (c0 := 215) X h jc_M js_215 (j_lt rfl hn) ⟨jqc_M_isParty, jqi_M_isParty, jqv_M_isParty, jqn_M⟩ jlm_M_206 jh_M_isParty rfl (by decide) (by decide) (Nat.le_of_ble_eq_true rfl) ⟨Nat.zero_le _, Nat.zero_le _⟩ (fun v0 I0 h => k_M_isParty (r := (v0, I0)) hF hn h) jd_M_gives_16 rfl (fun v3 I4 h => ?_)
    refine j_if_eq (tgt := 42) X jd_M_gives_19 rfl h (fun h => ?_) (fun h => ?_)
    · refine j_ldcw (v := (-2000000000)) X jlc_M_338 jd_M_gives_42 ?_
      exact j_iret X rfl jd_M_gives_45 h
    · refine j_iload_n X jd_M_gives_22 rfl rfl ?_
      refine j_iconst (v := 0) X jd_M_gives_23 (by decide) ?_
      refine j_bipush (v := 99) X jd_M_gives_24 (by decide) ?_
      refine j_callSi (As := [.int x3, .int 0, .int 99]) (st := []) X h ⟨jqc_M_among, jqs_M_among, jqn_M⟩ jlm_M_158 jh_M_among.2 rfl (by decide) (by decide) (Nat.le_of_ble_eq_true rfl) ⟨Nat.zero_le _, Nat.zero_le _⟩ (fun v0 I0 h => k_M_among (r := (v0, I0)) hF hn h) jd_M_gives_26 rfl (fun v5 I6 h => ?_)
      refine j_if_eq (tgt := 42) X jd_M_gives_29 rfl h (fun h => ?_) (fun h => ?_)
      · refine j_ldcw (v := (-2000000000)) X jlc_M_338 jd_M_gives_42 ?_
        exact j_iret X rfl jd_M_gives_45 h
      · refine j_aload_n X jd_M_gives_32 rfl rfl ?_
        refine j_iload_n X jd_M_gives_33 rfl rfl ?_
        refine j_iload_n X jd_M_gives_34 rfl rfl ?_
        refine j_iload_n X jd_M_gives_35 rfl rfl ?_
        refine j_callVi (As := [.int x1, .int x2, .int x3]) (st := []) (c0 := 215) X h jc_M js_215 (j_lt rfl hn) ⟨jqc_M_coinsBy, jqi_M_coinsBy, jqv_M_coinsBy, jqn_M⟩ jlm_M_335 jh_M_coinsBy rfl (by decide) (by decide) (Nat.le_of_ble_eq_true rfl) ⟨Nat.zero_le _, Nat.zero_le _⟩ (fun v0 I0 h => k_M_coinsBy (r := (v0, I0)) hF hn h) jd_M_gives_36 rfl (fun v7 I8 h => ?_)
        refine j_goto (tgt := 45) X jd_M_gives_39 rfl ?_
        exact j_iret X rfl jd_M_gives_45 h
-- PleasureGardenModel.enter(II)I
theorem jd_M_enter_0 : decode jb_M_enter 0 = .ok (.iload_n 1, 1) := by decide +kernel
theorem jd_M_enter_1 : decode jb_M_enter 1 = .ok (.invokestatic 183, 3) := by decide +kernel
theorem jd_M_enter_4 : decode jb_M_enter 4 = .ok (.ifCond .eq 13, 3) := by decide +kernel
theorem jd_M_enter_7 : decode jb_M_enter 7 = .ok (.iload_n 2, 1) := by decide +kernel
theorem jd_M_enter_8 : decode jb_M_enter 8 = .ok (.iconst 1, 1) := by decide +kernel
theorem jd_M_enter_9 : decode jb_M_enter 9 = .ok (.bipush 20, 2) := by decide +kernel
theorem jd_M_enter_11 : decode jb_M_enter 11 = .ok (.invokestatic 158, 3) := by decide +kernel
theorem jd_M_enter_14 : decode jb_M_enter 14 = .ok (.ifCond .ne 5, 3) := by decide +kernel
theorem jd_M_enter_17 : decode jb_M_enter 17 = .ok (.iconst (-1), 1) := by decide +kernel
theorem jd_M_enter_18 : decode jb_M_enter 18 = .ok (.ireturn, 1) := by decide +kernel
theorem jd_M_enter_19 : decode jb_M_enter 19 = .ok (.aload_n 0, 1) := by decide +kernel
theorem jd_M_enter_20 : decode jb_M_enter 20 = .ok (.getfield 29, 3) := by decide +kernel
theorem jd_M_enter_23 : decode jb_M_enter 23 = .ok (.iload_n 1, 1) := by decide +kernel
theorem jd_M_enter_24 : decode jb_M_enter 24 = .ok (.baload, 1) := by decide +kernel
theorem jd_M_enter_25 : decode jb_M_enter 25 = .ok (.ifCond .eq 10, 3) := by decide +kernel
theorem jd_M_enter_28 : decode jb_M_enter 28 = .ok (.aload_n 0, 1) := by decide +kernel
theorem jd_M_enter_29 : decode jb_M_enter 29 = .ok (.getfield 155, 3) := by decide +kernel
theorem jd_M_enter_32 : decode jb_M_enter 32 = .ok (.ifCond .ne 6, 3) := by decide +kernel
theorem jd_M_enter_35 : decode jb_M_enter 35 = .ok (.bipush (-2), 2) := by decide +kernel
theorem jd_M_enter_37 : decode jb_M_enter 37 = .ok (.ireturn, 1) := by decide +kernel
theorem jd_M_enter_38 : decode jb_M_enter 38 = .ok (.iconst 0, 1) := by decide +kernel
theorem jd_M_enter_39 : decode jb_M_enter 39 = .ok (.istore_n 3, 1) := by decide +kernel
theorem jd_M_enter_40 : decode jb_M_enter 40 = .ok (.iload_n 3, 1) := by decide +kernel
theorem jd_M_enter_41 : decode jb_M_enter 41 = .ok (.aload_n 0, 1) := by decide +kernel
theorem jd_M_enter_42 : decode jb_M_enter 42 = .ok (.getfield 180, 3) := by decide +kernel
theorem jd_M_enter_45 : decode jb_M_enter 45 = .ok (.if_icmp .ge 45, 3) := by decide +kernel
theorem jd_M_enter_48 : decode jb_M_enter 48 = .ok (.aload_n 0, 1) := by decide +kernel
theorem jd_M_enter_49 : decode jb_M_enter 49 = .ok (.getfield 35, 3) := by decide +kernel
theorem jd_M_enter_52 : decode jb_M_enter 52 = .ok (.iload_n 3, 1) := by decide +kernel
theorem jd_M_enter_53 : decode jb_M_enter 53 = .ok (.iaload, 1) := by decide +kernel
theorem jd_M_enter_54 : decode jb_M_enter 54 = .ok (.iload_n 1, 1) := by decide +kernel
theorem jd_M_enter_55 : decode jb_M_enter 55 = .ok (.if_icmp .ne 29, 3) := by decide +kernel
theorem jd_M_enter_58 : decode jb_M_enter 58 = .ok (.aload_n 0, 1) := by decide +kernel
theorem jd_M_enter_59 : decode jb_M_enter 59 = .ok (.getfield 38, 3) := by decide +kernel
theorem jd_M_enter_62 : decode jb_M_enter 62 = .ok (.iload_n 3, 1) := by decide +kernel
theorem jd_M_enter_63 : decode jb_M_enter 63 = .ok (.iaload, 1) := by decide +kernel
theorem jd_M_enter_64 : decode jb_M_enter 64 = .ok (.iconst 2, 1) := by decide +kernel
theorem jd_M_enter_65 : decode jb_M_enter 65 = .ok (.if_icmp .ne 6, 3) := by decide +kernel
theorem jd_M_enter_68 : decode jb_M_enter 68 = .ok (.goto 16, 3) := by decide +kernel
theorem jd_M_enter_71 : decode jb_M_enter 71 = .ok (.aload_n 0, 1) := by decide +kernel
theorem jd_M_enter_72 : decode jb_M_enter 72 = .ok (.dup, 1) := by decide +kernel
theorem jd_M_enter_73 : decode jb_M_enter 73 = .ok (.getfield 186, 3) := by decide +kernel
theorem jd_M_enter_76 : decode jb_M_enter 76 = .ok (.iconst 1, 1) := by decide +kernel
theorem jd_M_enter_77 : decode jb_M_enter 77 = .ok (.iadd, 1) := by decide +kernel
theorem jd_M_enter_78 : decode jb_M_enter 78 = .ok (.putfield 186, 3) := by decide +kernel
theorem jd_M_enter_81 : decode jb_M_enter 81 = .ok (.bipush (-5), 2) := by decide +kernel
theorem jd_M_enter_83 : decode jb_M_enter 83 = .ok (.ireturn, 1) := by decide +kernel
theorem jd_M_enter_84 : decode jb_M_enter 84 = .ok (.iinc 3 1, 3) := by decide +kernel
theorem jd_M_enter_87 : decode jb_M_enter 87 = .ok (.goto (-47), 3) := by decide +kernel
theorem jd_M_enter_90 : decode jb_M_enter 90 = .ok (.aload_n 0, 1) := by decide +kernel
theorem jd_M_enter_91 : decode jb_M_enter 91 = .ok (.getfield 180, 3) := by decide +kernel
theorem jd_M_enter_94 : decode jb_M_enter 94 = .ok (.bipush 100, 2) := by decide +kernel
theorem jd_M_enter_96 : decode jb_M_enter 96 = .ok (.if_icmp .ne 6, 3) := by decide +kernel
theorem jd_M_enter_99 : decode jb_M_enter 99 = .ok (.bipush (-3), 2) := by decide +kernel
theorem jd_M_enter_101 : decode jb_M_enter 101 = .ok (.ireturn, 1) := by decide +kernel
theorem jd_M_enter_102 : decode jb_M_enter 102 = .ok (.aload_n 0, 1) := by decide +kernel
theorem jd_M_enter_103 : decode jb_M_enter 103 = .ok (.getfield 180, 3) := by decide +kernel
theorem jd_M_enter_106 : decode jb_M_enter 106 = .ok (.istore_n 3, 1) := by decide +kernel
theorem jd_M_enter_107 : decode jb_M_enter 107 = .ok (.aload_n 0, 1) := by decide +kernel
theorem jd_M_enter_108 : decode jb_M_enter 108 = .ok (.getfield 32, 3) := by decide +kernel
theorem jd_M_enter_111 : decode jb_M_enter 111 = .ok (.iload_n 3, 1) := by decide +kernel
theorem jd_M_enter_112 : decode jb_M_enter 112 = .ok (.iload_n 2, 1) := by decide +kernel
theorem jd_M_enter_113 : decode jb_M_enter 113 = .ok (.iastore, 1) := by decide +kernel
theorem jd_M_enter_114 : decode jb_M_enter 114 = .ok (.aload_n 0, 1) := by decide +kernel
theorem jd_M_enter_115 : decode jb_M_enter 115 = .ok (.getfield 35, 3) := by decide +kernel
theorem jd_M_enter_118 : decode jb_M_enter 118 = .ok (.iload_n 3, 1) := by decide +kernel
theorem jd_M_enter_119 : decode jb_M_enter 119 = .ok (.iload_n 1, 1) := by decide +kernel
theorem jd_M_enter_120 : decode jb_M_enter 120 = .ok (.iastore, 1) := by decide +kernel
theorem jd_M_enter_121 : decode jb_M_enter 121 = .ok (.aload_n 0, 1) := by decide +kernel
theorem jd_M_enter_122 : decode jb_M_enter 122 = .ok (.getfield 38, 3) := by decide +kernel
theorem jd_M_enter_125 : decode jb_M_enter 125 = .ok (.iload_n 3, 1) := by decide +kernel
theorem jd_M_enter_126 : decode jb_M_enter 126 = .ok (.iconst 0, 1) := by decide +kernel
theorem jd_M_enter_127 : decode jb_M_enter 127 = .ok (.iastore, 1) := by decide +kernel
theorem jd_M_enter_128 : decode jb_M_enter 128 = .ok (.aload_n 0, 1) := by decide +kernel
theorem jd_M_enter_129 : decode jb_M_enter 129 = .ok (.getfield 41, 3) := by decide +kernel
theorem jd_M_enter_132 : decode jb_M_enter 132 = .ok (.iload_n 3, 1) := by decide +kernel
theorem jd_M_enter_133 : decode jb_M_enter 133 = .ok (.iconst 0, 1) := by decide +kernel
theorem jd_M_enter_134 : decode jb_M_enter 134 = .ok (.iastore, 1) := by decide +kernel
theorem jd_M_enter_135 : decode jb_M_enter 135 = .ok (.aload_n 0, 1) := by decide +kernel
theorem jd_M_enter_136 : decode jb_M_enter 136 = .ok (.getfield 44, 3) := by decide +kernel
theorem jd_M_enter_139 : decode jb_M_enter 139 = .ok (.iload_n 3, 1) := by decide +kernel
theorem jd_M_enter_140 : decode jb_M_enter 140 = .ok (.iconst (-1), 1) := by decide +kernel
theorem jd_M_enter_141 : decode jb_M_enter 141 = .ok (.iastore, 1) := by decide +kernel
theorem jd_M_enter_142 : decode jb_M_enter 142 = .ok (.aload_n 0, 1) := by decide +kernel
theorem jd_M_enter_143 : decode jb_M_enter 143 = .ok (.getfield 47, 3) := by decide +kernel
theorem jd_M_enter_146 : decode jb_M_enter 146 = .ok (.iload_n 3, 1) := by decide +kernel
theorem jd_M_enter_147 : decode jb_M_enter 147 = .ok (.iconst (-1), 1) := by decide +kernel
theorem jd_M_enter_148 : decode jb_M_enter 148 = .ok (.iastore, 1) := by decide +kernel
theorem jd_M_enter_149 : decode jb_M_enter 149 = .ok (.aload_n 0, 1) := by decide +kernel
theorem jd_M_enter_150 : decode jb_M_enter 150 = .ok (.getfield 53, 3) := by decide +kernel
theorem jd_M_enter_153 : decode jb_M_enter 153 = .ok (.iload_n 3, 1) := by decide +kernel
theorem jd_M_enter_154 : decode jb_M_enter 154 = .ok (.iconst 0, 1) := by decide +kernel
theorem jd_M_enter_155 : decode jb_M_enter 155 = .ok (.iastore, 1) := by decide +kernel
theorem jd_M_enter_156 : decode jb_M_enter 156 = .ok (.aload_n 0, 1) := by decide +kernel
theorem jd_M_enter_157 : decode jb_M_enter 157 = .ok (.getfield 56, 3) := by decide +kernel
theorem jd_M_enter_160 : decode jb_M_enter 160 = .ok (.iload_n 3, 1) := by decide +kernel
theorem jd_M_enter_161 : decode jb_M_enter 161 = .ok (.iconst 0, 1) := by decide +kernel
theorem jd_M_enter_162 : decode jb_M_enter 162 = .ok (.iastore, 1) := by decide +kernel
theorem jd_M_enter_163 : decode jb_M_enter 163 = .ok (.aload_n 0, 1) := by decide +kernel
theorem jd_M_enter_164 : decode jb_M_enter 164 = .ok (.getfield 59, 3) := by decide +kernel
theorem jd_M_enter_167 : decode jb_M_enter 167 = .ok (.iload_n 3, 1) := by decide +kernel
theorem jd_M_enter_168 : decode jb_M_enter 168 = .ok (.aload_n 0, 1) := by decide +kernel
theorem jd_M_enter_169 : decode jb_M_enter 169 = .ok (.getfield 171, 3) := by decide +kernel
theorem jd_M_enter_172 : decode jb_M_enter 172 = .ok (.iastore, 1) := by decide +kernel
theorem jd_M_enter_173 : decode jb_M_enter 173 = .ok (.aload_n 0, 1) := by decide +kernel
theorem jd_M_enter_174 : decode jb_M_enter 174 = .ok (.dup, 1) := by decide +kernel
theorem jd_M_enter_175 : decode jb_M_enter 175 = .ok (.getfield 180, 3) := by decide +kernel
theorem jd_M_enter_178 : decode jb_M_enter 178 = .ok (.iconst 1, 1) := by decide +kernel
theorem jd_M_enter_179 : decode jb_M_enter 179 = .ok (.iadd, 1) := by decide +kernel
theorem jd_M_enter_180 : decode jb_M_enter 180 = .ok (.putfield 180, 3) := by decide +kernel
theorem jd_M_enter_183 : decode jb_M_enter 183 = .ok (.aload_n 0, 1) := by decide +kernel
theorem jd_M_enter_184 : decode jb_M_enter 184 = .ok (.getfield 50, 3) := by decide +kernel
theorem jd_M_enter_187 : decode jb_M_enter 187 = .ok (.iload_n 3, 1) := by decide +kernel
theorem jd_M_enter_188 : decode jb_M_enter 188 = .ok (.aload_n 0, 1) := by decide +kernel
theorem jd_M_enter_189 : decode jb_M_enter 189 = .ok (.iconst 0, 1) := by decide +kernel
theorem jd_M_enter_190 : decode jb_M_enter 190 = .ok (.iload_n 3, 1) := by decide +kernel
theorem jd_M_enter_191 : decode jb_M_enter 191 = .ok (.iconst 0, 1) := by decide +kernel
theorem jd_M_enter_192 : decode jb_M_enter 192 = .ok (.invokevirtual 189, 3) := by decide +kernel
theorem jd_M_enter_195 : decode jb_M_enter 195 = .ok (.iastore, 1) := by decide +kernel
theorem jd_M_enter_196 : decode jb_M_enter 196 = .ok (.aload_n 0, 1) := by decide +kernel
theorem jd_M_enter_197 : decode jb_M_enter 197 = .ok (.dup, 1) := by decide +kernel
theorem jd_M_enter_198 : decode jb_M_enter 198 = .ok (.getfield 193, 3) := by decide +kernel
theorem jd_M_enter_201 : decode jb_M_enter 201 = .ok (.aload_n 0, 1) := by decide +kernel
theorem jd_M_enter_202 : decode jb_M_enter 202 = .ok (.getfield 50, 3) := by decide +kernel
theorem jd_M_enter_205 : decode jb_M_enter 205 = .ok (.iload_n 3, 1) := by decide +kernel
theorem jd_M_enter_206 : decode jb_M_enter 206 = .ok (.iaload, 1) := by decide +kernel
theorem jd_M_enter_207 : decode jb_M_enter 207 = .ok (.iadd, 1) := by decide +kernel
theorem jd_M_enter_208 : decode jb_M_enter 208 = .ok (.putfield 193, 3) := by decide +kernel
theorem jd_M_enter_211 : decode jb_M_enter 211 = .ok (.iload_n 3, 1) := by decide +kernel
theorem jd_M_enter_212 : decode jb_M_enter 212 = .ok (.ireturn, 1) := by decide +kernel
def f_M_enter_84 (F : Nat) (kb40 : Int32 → Int32 → Int32 → j_M → Option (Int32 × j_M)) (x1 : Int32) (x2 : Int32) (x3 : Int32) (I : j_M) : Option (Int32 × j_M) := j_let (x3 + 1) (fun v1 => kb40 x1 x2 v1 I)
def f_M_enter_40b (F : Nat) (kb40 : Int32 → Int32 → Int32 → j_M → Option (Int32 × j_M)) (x1 : Int32) (x2 : Int32) (x3 : Int32) (I : j_M) : Option (Int32 × j_M) := (if (I 215 12) ≤ x3 then (if (I 215 12) = 100 then some ((-3), I) else j_let (I 215 12) (fun v2 => (if j_ok v2 100 = true then j_let (j_wr I 223 (j_ix v2) x2) (fun I3 => (if j_ok v2 100 = true then j_let (j_wr I3 224 (j_ix v2) x1) (fun I4 => (if j_ok v2 100 = true then j_let (j_wr I4 225 (j_ix v2) 0) (fun I5 => (if j_ok v2 100 = true then j_let (j_wr I5 226 (j_ix v2) 0) (fun I6 => (if j_ok v2 100 = true then j_let (j_wr I6 227 (j_ix v2) (-1)) (fun I7 => (if j_ok v2 100 = true then j_let (j_wr I7 228 (j_ix v2) (-1)) (fun I8 => (if j_ok v2 100 = true then j_let (j_wr I8 230 (j_ix v2) 0) (fun I9 => (if j_ok v2 100 = true then j_let (j_wr I9 231 (j_ix v2) 0) (fun I10 => (if j_ok v2 100 = true then j_let (j_wr I10 232 (j_ix v2) (I10 215 2)) (fun I11 => j_let (j_wr I11 215 12 ((I11 215 12) + 1)) (fun I12 => j_bd (f_M_tonight F 0 v2 0 I12) (fun v13 I14 => (if j_ok v2 100 = true then j_let (j_wr I14 229 (j_ix v2) v13) (fun I15 => (if j_ok v2 100 = true then j_let (j_wr I15 215 26 ((I15 215 26) + (I15 229 (j_ix v2)))) (fun I16 => some (v2, I16)) else none)) else none)))) else none)) else none)) else none)) else none)) else none)) else none)) else none)) else none)) else none))) else (if j_ok x3 100 = true then (if (I 224 (j_ix x3)) = x1 then (if j_ok x3 100 = true then (if (I 225 (j_ix x3)) = 2 then f_M_enter_84 F kb40 x1 x2 x3 I else j_let (j_wr I 215 24 ((I 215 24) + 1)) (fun I17 => some ((-5), I17))) else none) else f_M_enter_84 F kb40 x1 x2 x3 I) else none))
def f_M_enter_40 (F : Nat)  (x1 : Int32) (x2 : Int32) (x3 : Int32) (I : j_M) : Option (Int32 × j_M) := j_it (fun (again : Int32 × Int32 × Int32 × j_M → Option (Int32 × j_M)) (q : Int32 × Int32 × Int32 × j_M) => f_M_enter_40b F  (fun x1 x2 x3 I => again (x1, x2, x3, I))  q.1 q.2.1 q.2.2.1 q.2.2.2) F (x1, x2, x3, I)
def f_M_enter (F : Nat) (x1 : Int32) (x2 : Int32) (I : j_M) : Option (Int32 × j_M) := j_bd (f_M_isTicket F x1 I) (fun v18 I19 => (if v18 = 0 then some ((-1), I19) else j_bd (f_M_among F x2 1 20 I19) (fun v20 I21 => (if v20 = 0 then some ((-1), I21) else (if j_ok x1 300 = true then (if (I21 222 (j_ix x1)) = 0 then some ((-2), I21) else (if (I21 215 3) = 0 then some ((-2), I21) else f_M_enter_40 F x1 x2 0 I21)) else none)))))
set_option maxRecDepth 100000 in
set_option maxHeartbeats 4000000 in
theorem k_M_enter_84 {p : Program} {l : Launch} {e : Env} {R : Room} {s : State} {m : MethodId} {args : Array Value} {below : List Frame} {meth : Method} {c : Code} {g : j_G} {b n : Nat} {P : j_R} {F : Nat} (hF : j_Fx 0 260 P) (hn : 260 ≤ n) (X : j_X p R s m args meth c g b 4 jb_M_enter 4 "PleasureGardenModel" (some .int)) {kb40 : Int32 → Int32 → Int32 → j_M → Option (Int32 × j_M)} (hkb40 : ∀ (x1 : Int32) (x2 : Int32) (x3 : Int32) (I : j_M) (r : Int32 × j_M), kb40 x1 x2 x3 I = some r → j_W p l e R s m args below meth c 4 g b n 0 0 (j_Qi g b n P below args s r) I P 40 [some (.ref (b + 215)), some (.int x1), some (.int x2), some (.int x3)] []) {x1 : Int32} {x2 : Int32} {x3 : Int32} {I : j_M} {r : Int32 × j_M}  (h : f_M_enter_84 F kb40 x1 x2 x3 I = some r) : j_W p l e R s m args below meth c 4 g b n 0 0 (j_Qi g b n P below args s r) I P 84 [some (.ref (b + 215)), some (.int x1), some (.int x2), some (.int x3)] [] := by
  unfold f_M_enter_84 at h
  obtain ⟨v1, ev1, h⟩ := j_ex h
  refine j_iinc (v := v1) (lv' := [some (.ref (b + 215)), some (.int x1), some (.int x2), some (.int v1)]) X jd_M_enter_84 rfl (by rw [ev1]; rfl) (by decide) rfl ?_
  refine j_goto (tgt := 40) X jd_M_enter_87 rfl ?_
  exact hkb40 _ _ _ _ _ h
set_option maxRecDepth 100000 in
set_option maxHeartbeats 4000000 in
theorem k_M_enter_40b {p : Program} {l : Launch} {e : Env} {R : Room} {s : State} {m : MethodId} {args : Array Value} {below : List Frame} {meth : Method} {c : Code} {g : j_G} {b n : Nat} {P : j_R} {F : Nat} (hF : j_Fx 0 260 P) (hn : 260 ≤ n) (X : j_X p R s m args meth c g b 4 jb_M_enter 4 "PleasureGardenModel" (some .int)) {kb40 : Int32 → Int32 → Int32 → j_M → Option (Int32 × j_M)} (hkb40 : ∀ (x1 : Int32) (x2 : Int32) (x3 : Int32) (I : j_M) (r : Int32 × j_M), kb40 x1 x2 x3 I = some r → j_W p l e R s m args below meth c 4 g b n 0 0 (j_Qi g b n P below args s r) I P 40 [some (.ref (b + 215)), some (.int x1), some (.int x2), some (.int x3)] []) {x1 : Int32} {x2 : Int32} {x3 : Int32} {I : j_M} {r : Int32 × j_M}  (h : f_M_enter_40b F kb40 x1 x2 x3 I = some r) : j_W p l e R s m args below meth c 4 g b n 0 0 (j_Qi g b n P below args s r) I P 40 [some (.ref (b + 215)), some (.int x1), some (.int x2), some (.int x3)] [] := by
  unfold f_M_enter_40b at h
  refine j_iload_n X jd_M_enter_40 rfl rfl ?_
  refine j_aload_n X jd_M_enter_41 rfl rfl ?_
  refine j_get X jf_M_180 jk_12_12 js_215 (j_lt rfl hn) jd_M_enter_42 ?_
  refine j_icmp_ge (tgt := 90) X jd_M_enter_45 rfl h (fun h => ?_) (fun h => ?_)
  · refine j_aload_n X jd_M_enter_90 rfl rfl ?_
    refine j_get X jf_M_180 jk_12_12 js_215 (j_lt rfl hn) jd_M_enter_91 ?_
    refine j_bipush (v := 100) X jd_M_enter_94 (by decide) ?_
    refine j_icmp_ne (tgt := 102) X jd_M_enter_96 rfl h (fun h => ?_) (fun h => ?_)
    · refine j_bipush (v := (-3)) X jd_M_enter_99 (by decide) ?_
      exact j_iret X rfl jd_M_enter_101 h
    · refine j_aload_n X jd_M_enter_102 rfl rfl ?_
      refine j_get X jf_M_180 jk_12_12 js_215 (j_lt rfl hn) jd_M_enter_103 ?_
      refine j_nm h (fun v2 h => ?_)
      refine j_istore_n (lv' := [some (.ref (b + 215)), some (.int x1), some (.int x2), some (.int v2)]) X jd_M_enter_106 rfl (by decide) rfl ?_
      refine j_aload_n X jd_M_enter_107 rfl rfl ?_
      refine j_getr X jf_M_32 jk_12_13 js_215 (j_lt rfl hn) (jp_215_13 hF) jd_M_enter_108 ?_
      refine j_iload_n X jd_M_enter_111 rfl rfl ?_
      refine j_iload_n X jd_M_enter_112 rfl rfl ?_
      refine j_iast X js_223 (j_lt rfl hn) jd_M_enter_113 h (fun h => ?_)
      refine j_mem h (fun I3 h => ?_)
      refine j_aload_n X jd_M_enter_114 rfl rfl ?_
      refine j_getr X jf_M_35 jk_12_14 js_215 (j_lt rfl hn) (jp_215_14 hF) jd_M_enter_115 ?_
      refine j_iload_n X jd_M_enter_118 rfl rfl ?_
      refine j_iload_n X jd_M_enter_119 rfl rfl ?_
      refine j_iast X js_224 (j_lt rfl hn) jd_M_enter_120 h (fun h => ?_)
      refine j_mem h (fun I4 h => ?_)
      refine j_aload_n X jd_M_enter_121 rfl rfl ?_
      refine j_getr X jf_M_38 jk_12_15 js_215 (j_lt rfl hn) (jp_215_15 hF) jd_M_enter_122 ?_
      refine j_iload_n X jd_M_enter_125 rfl rfl ?_
      refine j_iconst (v := 0) X jd_M_enter_126 (by decide) ?_
      refine j_iast X js_225 (j_lt rfl hn) jd_M_enter_127 h (fun h => ?_)
      refine j_mem h (fun I5 h => ?_)
      refine j_aload_n X jd_M_enter_128 rfl rfl ?_
      refine j_getr X jf_M_41 jk_12_16 js_215 (j_lt rfl hn) (jp_215_16 hF) jd_M_enter_129 ?_
      refine j_iload_n X jd_M_enter_132 rfl rfl ?_
      refine j_iconst (v := 0) X jd_M_enter_133 (by decide) ?_
      refine j_iast X js_226 (j_lt rfl hn) jd_M_enter_134 h (fun h => ?_)
      refine j_mem h (fun I6 h => ?_)
      refine j_aload_n X jd_M_enter_135 rfl rfl ?_
      refine j_getr X jf_M_44 jk_12_17 js_215 (j_lt rfl hn) (jp_215_17 hF) jd_M_enter_136 ?_
      refine j_iload_n X jd_M_enter_139 rfl rfl ?_
      refine j_iconst (v := (-1)) X jd_M_enter_140 (by decide) ?_
      refine j_iast X js_227 (j_lt rfl hn) jd_M_enter_141 h (fun h => ?_)
      refine j_mem h (fun I7 h => ?_)
      refine j_aload_n X jd_M_enter_142 rfl rfl ?_
      refine j_getr X jf_M_47 jk_12_18 js_215 (j_lt rfl hn) (jp_215_18 hF) jd_M_enter_143 ?_
      refine j_iload_n X jd_M_enter_146 rfl rfl ?_
      refine j_iconst (v := (-1)) X jd_M_enter_147 (by decide) ?_
      refine j_iast X js_228 (j_lt rfl hn) jd_M_enter_148 h (fun h => ?_)
      refine j_mem h (fun I8 h => ?_)
      refine j_aload_n X jd_M_enter_149 rfl rfl ?_
      refine j_getr X jf_M_53 jk_12_20 js_215 (j_lt rfl hn) (jp_215_20 hF) jd_M_enter_150 ?_
      refine j_iload_n X jd_M_enter_153 rfl rfl ?_
      refine j_iconst (v := 0) X jd_M_enter_154 (by decide) ?_
      refine j_iast X js_230 (j_lt rfl hn) jd_M_enter_155 h (fun h => ?_)
      refine j_mem h (fun I9 h => ?_)
      refine j_aload_n X jd_M_enter_156 rfl rfl ?_
      refine j_getr X jf_M_56 jk_12_21 js_215 (j_lt rfl hn) (jp_215_21 hF) jd_M_enter_157 ?_
      refine j_iload_n X jd_M_enter_160 rfl rfl ?_
      refine j_iconst (v := 0) X jd_M_enter_161 (by decide) ?_
      refine j_iast X js_231 (j_lt rfl hn) jd_M_enter_162 h (fun h => ?_)
      refine j_mem h (fun I10 h => ?_)
      refine j_aload_n X jd_M_enter_163 rfl rfl ?_
      refine j_getr X jf_M_59 jk_12_22 js_215 (j_lt rfl hn) (jp_215_22 hF) jd_M_enter_164 ?_
      refine j_iload_n X jd_M_enter_167 rfl rfl ?_
      refine j_aload_n X jd_M_enter_168 rfl rfl ?_
      refine j_get X jf_M_171 jk_12_2 js_215 (j_lt rfl hn) jd_M_enter_169 ?_
      refine j_iast X js_232 (j_lt rfl hn) jd_M_enter_172 h (fun h => ?_)
      refine j_mem h (fun I11 h => ?_)
      refine j_aload_n X jd_M_enter_173 rfl rfl ?_
      refine j_dup X jd_M_enter_174 rfl ?_
      refine j_get X jf_M_180 jk_12_12 js_215 (j_lt rfl hn) jd_M_enter_175 ?_
      refine j_iconst (v := 1) X jd_M_enter_178 (by decide) ?_
      refine j_iadd X jd_M_enter_179 ?_
      refine j_puti X jt_M jto_M jn_M jf_M_180 jk_12_12 js_215 (j_lt rfl hn) (Or.inl rfl) rfl jd_M_enter_180 ?_
      refine j_mem h (fun I12 h => ?_)
      refine j_aload_n X jd_M_enter_183 rfl rfl ?_
      refine j_getr X jf_M_50 jk_12_19 js_215 (j_lt rfl hn) (jp_215_19 hF) jd_M_enter_184 ?_
      refine j_iload_n X jd_M_enter_187 rfl rfl ?_
      refine j_aload_n X jd_M_enter_188 rfl rfl ?_
      refine j_iconst (v := 0) X jd_M_enter_189 (by decide) ?_
      refine j_iload_n X jd_M_enter_190 rfl rfl ?_
      refine j_iconst (v := 0) X jd_M_enter_191 (by decide) ?_
      refine j_callVi (As := [.int 0, .int v2, .int 0]) (st := [.int v2, .ref (b + 229)]) (c0 := 215) X h jc_M js_215 (j_lt rfl hn) ⟨jqc_M_tonight, jqi_M_tonight, jqv_M_tonight, jqn_M⟩ jlm_M_189 jh_M_tonight rfl (by decide) (by decide) (Nat.le_of_ble_eq_true rfl) ⟨Nat.zero_le _, Nat.zero_le _⟩ (fun v0 I0 h => k_M_tonight (r := (v0, I0)) hF hn h) jd_M_enter_192 rfl (fun v13 I14 h => ?_)
      refine j_iast X js_229 (j_lt rfl hn) jd_M_enter_195 h (fun h => ?_)
      refine j_mem h (fun I15 h => ?_)
      refine j_aload_n X jd_M_enter_196 rfl rfl ?_
      refine j_dup X jd_M_enter_197 rfl ?_
      refine j_get X jf_M_193 jk_12_26 js_215 (j_lt rfl hn) jd_M_enter_198 ?_
      refine j_aload_n X jd_M_enter_201 rfl rfl ?_
      refine j_getr X jf_M_50 jk_12_19 js_215 (j_lt rfl hn) (jp_215_19 hF) jd_M_enter_202 ?_
      refine j_iload_n X jd_M_enter_205 rfl rfl ?_
      refine j_iald X js_229 (j_lt rfl hn) jd_M_enter_206 h (fun _ h => ?_)
      refine j_iadd X jd_M_enter_207 ?_
      refine j_puti X jt_M jto_M jn_M jf_M_193 jk_12_26 js_215 (j_lt rfl hn) (Or.inl rfl) rfl jd_M_enter_208 ?_
      refine j_mem h (fun I16 h => ?_)
      refine j_iload_n X jd_M_enter_211 rfl rfl ?_
      exact j_iret X rfl jd_M_enter_212 h
  · refine j_aload_n X jd_M_enter_48 rfl rfl ?_
    refine j_getr X jf_M_35 jk_12_14 js_215 (j_lt rfl hn) (jp_215_14 hF) jd_M_enter_49 ?_
    refine j_iload_n X jd_M_enter_52 rfl rfl ?_
    refine j_iald X js_224 (j_lt rfl hn) jd_M_enter_53 h (fun _ h => ?_)
    refine j_iload_n X jd_M_enter_54 rfl rfl ?_
    refine j_icmp_ne (tgt := 84) X jd_M_enter_55 rfl h (fun h => ?_) (fun h => ?_)
    · refine j_aload_n X jd_M_enter_58 rfl rfl ?_
      refine j_getr X jf_M_38 jk_12_15 js_215 (j_lt rfl hn) (jp_215_15 hF) jd_M_enter_59 ?_
      refine j_iload_n X jd_M_enter_62 rfl rfl ?_
      refine j_iald X js_225 (j_lt rfl hn) jd_M_enter_63 h (fun _ h => ?_)
      refine j_iconst (v := 2) X jd_M_enter_64 (by decide) ?_
      refine j_icmp_ne (tgt := 71) X jd_M_enter_65 rfl h (fun h => ?_) (fun h => ?_)
      · refine j_goto (tgt := 84) X jd_M_enter_68 rfl ?_
        exact k_M_enter_84 hF hn X hkb40 h
      · refine j_aload_n X jd_M_enter_71 rfl rfl ?_
        refine j_dup X jd_M_enter_72 rfl ?_
        refine j_get X jf_M_186 jk_12_24 js_215 (j_lt rfl hn) jd_M_enter_73 ?_
        refine j_iconst (v := 1) X jd_M_enter_76 (by decide) ?_
        refine j_iadd X jd_M_enter_77 ?_
        refine j_puti X jt_M jto_M jn_M jf_M_186 jk_12_24 js_215 (j_lt rfl hn) (Or.inl rfl) rfl jd_M_enter_78 ?_
        refine j_mem h (fun I17 h => ?_)
        refine j_bipush (v := (-5)) X jd_M_enter_81 (by decide) ?_
        exact j_iret X rfl jd_M_enter_83 h
    · exact k_M_enter_84 hF hn X hkb40 h
set_option maxRecDepth 100000 in
set_option maxHeartbeats 4000000 in
theorem k_M_enter_40 {p : Program} {l : Launch} {e : Env} {R : Room} {s : State} {m : MethodId} {args : Array Value} {below : List Frame} {meth : Method} {c : Code} {g : j_G} {b n : Nat} {P : j_R} {F : Nat} (hF : j_Fx 0 260 P) (hn : 260 ≤ n) (X : j_X p R s m args meth c g b 4 jb_M_enter 4 "PleasureGardenModel" (some .int))  {x1 : Int32} {x2 : Int32} {x3 : Int32} {I : j_M} {r : Int32 × j_M} (h : f_M_enter_40 F x1 x2 x3 I = some r) : j_W p l e R s m args below meth c 4 g b n 0 0 (j_Qi g b n P below args s r) I P 40 [some (.ref (b + 215)), some (.int x1), some (.int x2), some (.int x3)] [] := by
  refine j_loop (G := fun (q : Int32 × Int32 × Int32 × j_M) (r : Int32 × j_M) => j_W p l e R s m args below meth c 4 g b n 0 0 (j_Qi g b n P below args s r) q.2.2.2 P 40 [some (.ref (b + 215)), some (.int (q.1)), some (.int (q.2.1)), some (.int (q.2.2.1))] []) ?_ F (x1, x2, x3, I) r h
  intro again hrec0 q r h
  exact k_M_enter_40b hF hn X (fun x1 x2 x3 I r h => hrec0 (x1, x2, x3, I) r h)  h
set_option maxRecDepth 100000 in
set_option maxHeartbeats 4000000 in
theorem k_M_enter {l : Launch} {g : j_G} {b n : Nat} {P : j_R} {F : Nat} (hF : j_Fx 0 260 P) (hn : 260 ≤ n) {x1 : Int32} {x2 : Int32} {I : j_M} {r : Int32 × j_M}  (h : f_M_enter F x1 x2 I = some r) : j_Met l g b n P 4 jy_M_enter jb_M_enter 4 (some .int) [.ref (b + 215), .int x1, .int x2] I r.2 (some (.int r.1)) := by
  unfold f_M_enter at h
  refine j_enter (plainFor_of_name (by decide)) (Nat.le_of_ble_eq_true rfl) [some (.ref (b + 215)), some (.int x1), some (.int x2), none] rfl ?_
  intro p e R s m args below meth c X0 hnm hRc hRs
  have X : j_X p R s m args meth c g b 4 jb_M_enter 4 "PleasureGardenModel" (some .int) := X0
  clear X0
  refine j_iload_n X jd_M_enter_0 rfl rfl ?_
  refine j_callSi (As := [.int x1]) (st := []) X h ⟨jqc_M_isTicket, jqs_M_isTicket, jqn_M⟩ jlm_M_183 jh_M_isTicket.2 rfl (by decide) (by decide) (Nat.le_of_ble_eq_true rfl) ⟨Nat.zero_le _, Nat.zero_le _⟩ (fun v0 I0 h => k_M_isTicket (r := (v0, I0)) hF hn h) jd_M_enter_1 rfl (fun v18 I19 h => ?_)
  refine j_if_eq (tgt := 17) X jd_M_enter_4 rfl h (fun h => ?_) (fun h => ?_)
  · refine j_iconst (v := (-1)) X jd_M_enter_17 (by decide) ?_
    exact j_iret X rfl jd_M_enter_18 h
  · refine j_iload_n X jd_M_enter_7 rfl rfl ?_
    refine j_iconst (v := 1) X jd_M_enter_8 (by decide) ?_
    refine j_bipush (v := 20) X jd_M_enter_9 (by decide) ?_
    refine j_callSi (As := [.int x2, .int 1, .int 20]) (st := []) X h ⟨jqc_M_among, jqs_M_among, jqn_M⟩ jlm_M_158 jh_M_among.2 rfl (by decide) (by decide) (Nat.le_of_ble_eq_true rfl) ⟨Nat.zero_le _, Nat.zero_le _⟩ (fun v0 I0 h => k_M_among (r := (v0, I0)) hF hn h) jd_M_enter_11 rfl (fun v20 I21 h => ?_)
    refine j_if_ne (tgt := 19) X jd_M_enter_14 rfl h (fun h => ?_) (fun h => ?_)
    · refine j_iconst (v := (-1)) X jd_M_enter_17 (by decide) ?_
      exact j_iret X rfl jd_M_enter_18 h
    · refine j_aload_n X jd_M_enter_19 rfl rfl ?_
      refine j_getr X jf_M_29 jk_12_11 js_215 (j_lt rfl hn) (jp_215_11 hF) jd_M_enter_20 ?_
      refine j_iload_n X jd_M_enter_23 rfl rfl ?_
      refine j_zald X js_222 (j_lt rfl hn) jd_M_enter_24 h (fun _ h => ?_)
      refine j_if_eq (tgt := 35) X jd_M_enter_25 rfl h (fun h => ?_) (fun h => ?_)
      · refine j_bipush (v := (-2)) X jd_M_enter_35 (by decide) ?_
        exact j_iret X rfl jd_M_enter_37 h
      · refine j_aload_n X jd_M_enter_28 rfl rfl ?_
        refine j_get X jf_M_155 jk_12_3 js_215 (j_lt rfl hn) jd_M_enter_29 ?_
        refine j_if_ne (tgt := 38) X jd_M_enter_32 rfl h (fun h => ?_) (fun h => ?_)
        · refine j_bipush (v := (-2)) X jd_M_enter_35 (by decide) ?_
          exact j_iret X rfl jd_M_enter_37 h
        · refine j_iconst (v := 0) X jd_M_enter_38 (by decide) ?_
          refine j_istore_n (lv' := [some (.ref (b + 215)), some (.int x1), some (.int x2), some (.int 0)]) X jd_M_enter_39 rfl (by decide) rfl ?_
          exact k_M_enter_40 hF hn X h
-- PleasureGardenModel.goesOut(I)V
theorem jd_M_goesOut_0 : decode jb_M_goesOut 0 = .ok (.aload_n 0, 1) := by decide +kernel
theorem jd_M_goesOut_1 : decode jb_M_goesOut 1 = .ok (.getfield 53, 3) := by decide +kernel
theorem jd_M_goesOut_4 : decode jb_M_goesOut 4 = .ok (.iload_n 1, 1) := by decide +kernel
theorem jd_M_goesOut_5 : decode jb_M_goesOut 5 = .ok (.aload_n 0, 1) := by decide +kernel
theorem jd_M_goesOut_6 : decode jb_M_goesOut 6 = .ok (.iconst 2, 1) := by decide +kernel
theorem jd_M_goesOut_7 : decode jb_M_goesOut 7 = .ok (.iload_n 1, 1) := by decide +kernel
theorem jd_M_goesOut_8 : decode jb_M_goesOut 8 = .ok (.iconst 0, 1) := by decide +kernel
theorem jd_M_goesOut_9 : decode jb_M_goesOut 9 = .ok (.invokevirtual 189, 3) := by decide +kernel
theorem jd_M_goesOut_12 : decode jb_M_goesOut 12 = .ok (.iastore, 1) := by decide +kernel
theorem jd_M_goesOut_13 : decode jb_M_goesOut 13 = .ok (.aload_n 0, 1) := by decide +kernel
theorem jd_M_goesOut_14 : decode jb_M_goesOut 14 = .ok (.dup, 1) := by decide +kernel
theorem jd_M_goesOut_15 : decode jb_M_goesOut 15 = .ok (.getfield 193, 3) := by decide +kernel
theorem jd_M_goesOut_18 : decode jb_M_goesOut 18 = .ok (.aload_n 0, 1) := by decide +kernel
theorem jd_M_goesOut_19 : decode jb_M_goesOut 19 = .ok (.getfield 53, 3) := by decide +kernel
theorem jd_M_goesOut_22 : decode jb_M_goesOut 22 = .ok (.iload_n 1, 1) := by decide +kernel
theorem jd_M_goesOut_23 : decode jb_M_goesOut 23 = .ok (.iaload, 1) := by decide +kernel
theorem jd_M_goesOut_24 : decode jb_M_goesOut 24 = .ok (.isub, 1) := by decide +kernel
theorem jd_M_goesOut_25 : decode jb_M_goesOut 25 = .ok (.putfield 193, 3) := by decide +kernel
theorem jd_M_goesOut_28 : decode jb_M_goesOut 28 = .ok (.aload_n 0, 1) := by decide +kernel
theorem jd_M_goesOut_29 : decode jb_M_goesOut 29 = .ok (.iload_n 1, 1) := by decide +kernel
theorem jd_M_goesOut_30 : decode jb_M_goesOut 30 = .ok (.invokevirtual 203, 3) := by decide +kernel
theorem jd_M_goesOut_33 : decode jb_M_goesOut 33 = .ok (.aload_n 0, 1) := by decide +kernel
theorem jd_M_goesOut_34 : decode jb_M_goesOut 34 = .ok (.getfield 38, 3) := by decide +kernel
theorem jd_M_goesOut_37 : decode jb_M_goesOut 37 = .ok (.iload_n 1, 1) := by decide +kernel
theorem jd_M_goesOut_38 : decode jb_M_goesOut 38 = .ok (.iconst 2, 1) := by decide +kernel
theorem jd_M_goesOut_39 : decode jb_M_goesOut 39 = .ok (.iastore, 1) := by decide +kernel
theorem jd_M_goesOut_40 : decode jb_M_goesOut 40 = .ok (.aload_n 0, 1) := by decide +kernel
theorem jd_M_goesOut_41 : decode jb_M_goesOut 41 = .ok (.getfield 41, 3) := by decide +kernel
theorem jd_M_goesOut_44 : decode jb_M_goesOut 44 = .ok (.iload_n 1, 1) := by decide +kernel
theorem jd_M_goesOut_45 : decode jb_M_goesOut 45 = .ok (.iconst (-1), 1) := by decide +kernel
theorem jd_M_goesOut_46 : decode jb_M_goesOut 46 = .ok (.iastore, 1) := by decide +kernel
theorem jd_M_goesOut_47 : decode jb_M_goesOut 47 = .ok (.aload_n 0, 1) := by decide +kernel
theorem jd_M_goesOut_48 : decode jb_M_goesOut 48 = .ok (.getfield 44, 3) := by decide +kernel
theorem jd_M_goesOut_51 : decode jb_M_goesOut 51 = .ok (.iload_n 1, 1) := by decide +kernel
theorem jd_M_goesOut_52 : decode jb_M_goesOut 52 = .ok (.iconst (-1), 1) := by decide +kernel
theorem jd_M_goesOut_53 : decode jb_M_goesOut 53 = .ok (.iastore, 1) := by decide +kernel
theorem jd_M_goesOut_54 : decode jb_M_goesOut 54 = .ok (.return_, 1) := by decide +kernel
def f_M_goesOut (F : Nat) (x1 : Int32) (I : j_M) : Option (Int32 × j_M) := j_bd (f_M_tonight F 2 x1 0 I) (fun v1 I2 => (if j_ok x1 100 = true then j_let (j_wr I2 230 (j_ix x1) v1) (fun I3 => (if j_ok x1 100 = true then j_let (j_wr I3 215 26 ((I3 215 26) - (I3 230 (j_ix x1)))) (fun I4 => j_bd (f_M_getsUp F x1 I4) (fun v5 I6 => (if j_ok x1 100 = true then j_let (j_wr I6 225 (j_ix x1) 2) (fun I7 => (if j_ok x1 100 = true then j_let (j_wr I7 226 (j_ix x1) (-1)) (fun I8 => (if j_ok x1 100 = true then j_let (j_wr I8 227 (j_ix x1) (-1)) (fun I9 => some (0, I9)) else none)) else none)) else none))) else none)) else none))
set_option maxRecDepth 100000 in
set_option maxHeartbeats 4000000 in
theorem k_M_goesOut {l : Launch} {g : j_G} {b n : Nat} {P : j_R} {F : Nat} (hF : j_Fx 0 260 P) (hn : 260 ≤ n) {x1 : Int32} {I : j_M} {r : Int32 × j_M}  (h : f_M_goesOut F x1 I = some r) : j_Met l g b n P 4 jy_M_goesOut jb_M_goesOut 2 none [.ref (b + 215), .int x1] I r.2 none := by
  unfold f_M_goesOut at h
  refine j_enter (plainFor_of_name (by decide)) (Nat.le_of_ble_eq_true rfl) [some (.ref (b + 215)), some (.int x1)] rfl ?_
  intro p e R s m args below meth c X0 hnm hRc hRs
  have X : j_X p R s m args meth c g b 4 jb_M_goesOut 2 "PleasureGardenModel" none := X0
  clear X0
  refine j_aload_n X jd_M_goesOut_0 rfl rfl ?_
  refine j_getr X jf_M_53 jk_12_20 js_215 (j_lt rfl hn) (jp_215_20 hF) jd_M_goesOut_1 ?_
  refine j_iload_n X jd_M_goesOut_4 rfl rfl ?_
  refine j_aload_n X jd_M_goesOut_5 rfl rfl ?_
  refine j_iconst (v := 2) X jd_M_goesOut_6 (by decide) ?_
  refine j_iload_n X jd_M_goesOut_7 rfl rfl ?_
  refine j_iconst (v := 0) X jd_M_goesOut_8 (by decide) ?_
  refine j_callVi (As := [.int 2, .int x1, .int 0]) (st := [.int x1, .ref (b + 230)]) (c0 := 215) X h jc_M js_215 (j_lt rfl hn) ⟨jqc_M_tonight, jqi_M_tonight, jqv_M_tonight, jqn_M⟩ jlm_M_189 jh_M_tonight rfl (by decide) (by decide) (Nat.le_of_ble_eq_true rfl) ⟨Nat.zero_le _, Nat.zero_le _⟩ (fun v0 I0 h => k_M_tonight (r := (v0, I0)) hF hn h) jd_M_goesOut_9 rfl (fun v1 I2 h => ?_)
  refine j_iast X js_230 (j_lt rfl hn) jd_M_goesOut_12 h (fun h => ?_)
  refine j_mem h (fun I3 h => ?_)
  refine j_aload_n X jd_M_goesOut_13 rfl rfl ?_
  refine j_dup X jd_M_goesOut_14 rfl ?_
  refine j_get X jf_M_193 jk_12_26 js_215 (j_lt rfl hn) jd_M_goesOut_15 ?_
  refine j_aload_n X jd_M_goesOut_18 rfl rfl ?_
  refine j_getr X jf_M_53 jk_12_20 js_215 (j_lt rfl hn) (jp_215_20 hF) jd_M_goesOut_19 ?_
  refine j_iload_n X jd_M_goesOut_22 rfl rfl ?_
  refine j_iald X js_230 (j_lt rfl hn) jd_M_goesOut_23 h (fun _ h => ?_)
  refine j_isub X jd_M_goesOut_24 ?_
  refine j_puti X jt_M jto_M jn_M jf_M_193 jk_12_26 js_215 (j_lt rfl hn) (Or.inl rfl) rfl jd_M_goesOut_25 ?_
  refine j_mem h (fun I4 h => ?_)
  refine j_aload_n X jd_M_goesOut_28 rfl rfl ?_
  refine j_iload_n X jd_M_goesOut_29 rfl rfl ?_
  refine j_callVv (As := [.int x1]) (st := []) (c0 := 215) X h jc_M js_215 (j_lt rfl hn) ⟨jqc_M_getsUp, jqi_M_getsUp, jqv_M_getsUp, jqn_M⟩ jlm_M_203 jh_M_getsUp rfl (by decide) (by decide) (Nat.le_of_ble_eq_true rfl) ⟨Nat.zero_le _, Nat.zero_le _⟩ (fun v0 I0 h => k_M_getsUp (r := (v0, I0)) hF hn h) jd_M_goesOut_30 rfl (fun v5 I6 h => ?_)
  refine j_aload_n X jd_M_goesOut_33 rfl rfl ?_
  refine j_getr X jf_M_38 jk_12_15 js_215 (j_lt rfl hn) (jp_215_15 hF) jd_M_goesOut_34 ?_
  refine j_iload_n X jd_M_goesOut_37 rfl rfl ?_
  refine j_iconst (v := 2) X jd_M_goesOut_38 (by decide) ?_
  refine j_iast X js_225 (j_lt rfl hn) jd_M_goesOut_39 h (fun h => ?_)
  refine j_mem h (fun I7 h => ?_)
  refine j_aload_n X jd_M_goesOut_40 rfl rfl ?_
  refine j_getr X jf_M_41 jk_12_16 js_215 (j_lt rfl hn) (jp_215_16 hF) jd_M_goesOut_41 ?_
  refine j_iload_n X jd_M_goesOut_44 rfl rfl ?_
  refine j_iconst (v := (-1)) X jd_M_goesOut_45 (by decide) ?_
  refine j_iast X js_226 (j_lt rfl hn) jd_M_goesOut_46 h (fun h => ?_)
  refine j_mem h (fun I8 h => ?_)
  refine j_aload_n X jd_M_goesOut_47 rfl rfl ?_
  refine j_getr X jf_M_44 jk_12_17 js_215 (j_lt rfl hn) (jp_215_17 hF) jd_M_goesOut_48 ?_
  refine j_iload_n X jd_M_goesOut_51 rfl rfl ?_
  refine j_iconst (v := (-1)) X jd_M_goesOut_52 (by decide) ?_
  refine j_iast X js_227 (j_lt rfl hn) jd_M_goesOut_53 h (fun h => ?_)
  refine j_mem h (fun I9 h => ?_)
  exact j_vret X rfl jd_M_goesOut_54 h
-- PleasureGardenModel.serve()V
theorem jd_M_serve_0 : decode jb_M_serve 0 = .ok (.aload_n 0, 1) := by decide +kernel
theorem jd_M_serve_1 : decode jb_M_serve 1 = .ok (.getfield 95, 3) := by decide +kernel
theorem jd_M_serve_4 : decode jb_M_serve 4 = .ok (.aload_n 0, 1) := by decide +kernel
theorem jd_M_serve_5 : decode jb_M_serve 5 = .ok (.getfield 196, 3) := by decide +kernel
theorem jd_M_serve_8 : decode jb_M_serve 8 = .ok (.if_icmp .ge 10, 3) := by decide +kernel
theorem jd_M_serve_11 : decode jb_M_serve 11 = .ok (.aload_n 0, 1) := by decide +kernel
theorem jd_M_serve_12 : decode jb_M_serve 12 = .ok (.getfield 95, 3) := by decide +kernel
theorem jd_M_serve_15 : decode jb_M_serve 15 = .ok (.goto 7, 3) := by decide +kernel
theorem jd_M_serve_18 : decode jb_M_serve 18 = .ok (.aload_n 0, 1) := by decide +kernel
theorem jd_M_serve_19 : decode jb_M_serve 19 = .ok (.getfield 196, 3) := by decide +kernel
theorem jd_M_serve_22 : decode jb_M_serve 22 = .ok (.istore_n 1, 1) := by decide +kernel
theorem jd_M_serve_23 : decode jb_M_serve 23 = .ok (.iconst 0, 1) := by decide +kernel
theorem jd_M_serve_24 : decode jb_M_serve 24 = .ok (.istore_n 2, 1) := by decide +kernel
theorem jd_M_serve_25 : decode jb_M_serve 25 = .ok (.iload_n 2, 1) := by decide +kernel
theorem jd_M_serve_26 : decode jb_M_serve 26 = .ok (.iload_n 1, 1) := by decide +kernel
theorem jd_M_serve_27 : decode jb_M_serve 27 = .ok (.if_icmp .ge 203, 3) := by decide +kernel
theorem jd_M_serve_30 : decode jb_M_serve 30 = .ok (.aload_n 0, 1) := by decide +kernel
theorem jd_M_serve_31 : decode jb_M_serve 31 = .ok (.getfield 98, 3) := by decide +kernel
theorem jd_M_serve_34 : decode jb_M_serve 34 = .ok (.iconst 0, 1) := by decide +kernel
theorem jd_M_serve_35 : decode jb_M_serve 35 = .ok (.iaload, 1) := by decide +kernel
theorem jd_M_serve_36 : decode jb_M_serve 36 = .ok (.istore_n 3, 1) := by decide +kernel
theorem jd_M_serve_37 : decode jb_M_serve 37 = .ok (.aload_n 0, 1) := by decide +kernel
theorem jd_M_serve_38 : decode jb_M_serve 38 = .ok (.getfield 101, 3) := by decide +kernel
theorem jd_M_serve_41 : decode jb_M_serve 41 = .ok (.iconst 0, 1) := by decide +kernel
theorem jd_M_serve_42 : decode jb_M_serve 42 = .ok (.iaload, 1) := by decide +kernel
theorem jd_M_serve_43 : decode jb_M_serve 43 = .ok (.istore 4, 2) := by decide +kernel
theorem jd_M_serve_45 : decode jb_M_serve 45 = .ok (.aload_n 0, 1) := by decide +kernel
theorem jd_M_serve_46 : decode jb_M_serve 46 = .ok (.getfield 104, 3) := by decide +kernel
theorem jd_M_serve_49 : decode jb_M_serve 49 = .ok (.iconst 0, 1) := by decide +kernel
theorem jd_M_serve_50 : decode jb_M_serve 50 = .ok (.baload, 1) := by decide +kernel
theorem jd_M_serve_51 : decode jb_M_serve 51 = .ok (.istore 5, 2) := by decide +kernel
theorem jd_M_serve_53 : decode jb_M_serve 53 = .ok (.iconst 1, 1) := by decide +kernel
theorem jd_M_serve_54 : decode jb_M_serve 54 = .ok (.istore 6, 2) := by decide +kernel
theorem jd_M_serve_56 : decode jb_M_serve 56 = .ok (.iload 6, 2) := by decide +kernel
theorem jd_M_serve_58 : decode jb_M_serve 58 = .ok (.aload_n 0, 1) := by decide +kernel
theorem jd_M_serve_59 : decode jb_M_serve 59 = .ok (.getfield 196, 3) := by decide +kernel
theorem jd_M_serve_62 : decode jb_M_serve 62 = .ok (.if_icmp .ge 19, 3) := by decide +kernel
theorem jd_M_serve_65 : decode jb_M_serve 65 = .ok (.aload_n 0, 1) := by decide +kernel
theorem jd_M_serve_66 : decode jb_M_serve 66 = .ok (.iload 6, 2) := by decide +kernel
theorem jd_M_serve_68 : decode jb_M_serve 68 = .ok (.iload 6, 2) := by decide +kernel
theorem jd_M_serve_70 : decode jb_M_serve 70 = .ok (.iconst 1, 1) := by decide +kernel
theorem jd_M_serve_71 : decode jb_M_serve 71 = .ok (.isub, 1) := by decide +kernel
theorem jd_M_serve_72 : decode jb_M_serve 72 = .ok (.invokevirtual 199, 3) := by decide +kernel
theorem jd_M_serve_75 : decode jb_M_serve 75 = .ok (.iinc 6 1, 3) := by decide +kernel
theorem jd_M_serve_78 : decode jb_M_serve 78 = .ok (.goto (-22), 3) := by decide +kernel
theorem jd_M_serve_81 : decode jb_M_serve 81 = .ok (.aload_n 0, 1) := by decide +kernel
theorem jd_M_serve_82 : decode jb_M_serve 82 = .ok (.dup, 1) := by decide +kernel
theorem jd_M_serve_83 : decode jb_M_serve 83 = .ok (.getfield 196, 3) := by decide +kernel
theorem jd_M_serve_86 : decode jb_M_serve 86 = .ok (.iconst 1, 1) := by decide +kernel
theorem jd_M_serve_87 : decode jb_M_serve 87 = .ok (.isub, 1) := by decide +kernel
theorem jd_M_serve_88 : decode jb_M_serve 88 = .ok (.putfield 196, 3) := by decide +kernel
theorem jd_M_serve_91 : decode jb_M_serve 91 = .ok (.aload_n 0, 1) := by decide +kernel
theorem jd_M_serve_92 : decode jb_M_serve 92 = .ok (.getfield 266, 3) := by decide +kernel
theorem jd_M_serve_95 : decode jb_M_serve 95 = .ok (.iload 4, 2) := by decide +kernel
theorem jd_M_serve_97 : decode jb_M_serve 97 = .ok (.aload_n 0, 1) := by decide +kernel
theorem jd_M_serve_98 : decode jb_M_serve 98 = .ok (.getfield 91, 3) := by decide +kernel
theorem jd_M_serve_101 : decode jb_M_serve 101 = .ok (.imul, 1) := by decide +kernel
theorem jd_M_serve_102 : decode jb_M_serve 102 = .ok (.if_icmp .lt 76, 3) := by decide +kernel
theorem jd_M_serve_105 : decode jb_M_serve 105 = .ok (.aload_n 0, 1) := by decide +kernel
theorem jd_M_serve_106 : decode jb_M_serve 106 = .ok (.dup, 1) := by decide +kernel
theorem jd_M_serve_107 : decode jb_M_serve 107 = .ok (.getfield 266, 3) := by decide +kernel
theorem jd_M_serve_110 : decode jb_M_serve 110 = .ok (.iload 4, 2) := by decide +kernel
theorem jd_M_serve_112 : decode jb_M_serve 112 = .ok (.aload_n 0, 1) := by decide +kernel
theorem jd_M_serve_113 : decode jb_M_serve 113 = .ok (.getfield 91, 3) := by decide +kernel
theorem jd_M_serve_116 : decode jb_M_serve 116 = .ok (.imul, 1) := by decide +kernel
theorem jd_M_serve_117 : decode jb_M_serve 117 = .ok (.isub, 1) := by decide +kernel
theorem jd_M_serve_118 : decode jb_M_serve 118 = .ok (.putfield 266, 3) := by decide +kernel
theorem jd_M_serve_121 : decode jb_M_serve 121 = .ok (.aload_n 0, 1) := by decide +kernel
theorem jd_M_serve_122 : decode jb_M_serve 122 = .ok (.getfield 56, 3) := by decide +kernel
theorem jd_M_serve_125 : decode jb_M_serve 125 = .ok (.iload_n 3, 1) := by decide +kernel
theorem jd_M_serve_126 : decode jb_M_serve 126 = .ok (.dup2, 1) := by decide +kernel
theorem jd_M_serve_127 : decode jb_M_serve 127 = .ok (.iaload, 1) := by decide +kernel
theorem jd_M_serve_128 : decode jb_M_serve 128 = .ok (.iload 4, 2) := by decide +kernel
theorem jd_M_serve_130 : decode jb_M_serve 130 = .ok (.iadd, 1) := by decide +kernel
theorem jd_M_serve_131 : decode jb_M_serve 131 = .ok (.iastore, 1) := by decide +kernel
theorem jd_M_serve_132 : decode jb_M_serve 132 = .ok (.aload_n 0, 1) := by decide +kernel
theorem jd_M_serve_133 : decode jb_M_serve 133 = .ok (.dup, 1) := by decide +kernel
theorem jd_M_serve_134 : decode jb_M_serve 134 = .ok (.getfield 270, 3) := by decide +kernel
theorem jd_M_serve_137 : decode jb_M_serve 137 = .ok (.iload 4, 2) := by decide +kernel
theorem jd_M_serve_139 : decode jb_M_serve 139 = .ok (.iadd, 1) := by decide +kernel
theorem jd_M_serve_140 : decode jb_M_serve 140 = .ok (.putfield 270, 3) := by decide +kernel
theorem jd_M_serve_143 : decode jb_M_serve 143 = .ok (.aload_n 0, 1) := by decide +kernel
theorem jd_M_serve_144 : decode jb_M_serve 144 = .ok (.iconst 1, 1) := by decide +kernel
theorem jd_M_serve_145 : decode jb_M_serve 145 = .ok (.iload_n 3, 1) := by decide +kernel
theorem jd_M_serve_146 : decode jb_M_serve 146 = .ok (.iload 4, 2) := by decide +kernel
theorem jd_M_serve_148 : decode jb_M_serve 148 = .ok (.invokevirtual 189, 3) := by decide +kernel
theorem jd_M_serve_151 : decode jb_M_serve 151 = .ok (.istore 6, 2) := by decide +kernel
theorem jd_M_serve_153 : decode jb_M_serve 153 = .ok (.aload_n 0, 1) := by decide +kernel
theorem jd_M_serve_154 : decode jb_M_serve 154 = .ok (.getfield 50, 3) := by decide +kernel
theorem jd_M_serve_157 : decode jb_M_serve 157 = .ok (.iload_n 3, 1) := by decide +kernel
theorem jd_M_serve_158 : decode jb_M_serve 158 = .ok (.dup2, 1) := by decide +kernel
theorem jd_M_serve_159 : decode jb_M_serve 159 = .ok (.iaload, 1) := by decide +kernel
theorem jd_M_serve_160 : decode jb_M_serve 160 = .ok (.iload 6, 2) := by decide +kernel
theorem jd_M_serve_162 : decode jb_M_serve 162 = .ok (.iadd, 1) := by decide +kernel
theorem jd_M_serve_163 : decode jb_M_serve 163 = .ok (.iastore, 1) := by decide +kernel
theorem jd_M_serve_164 : decode jb_M_serve 164 = .ok (.aload_n 0, 1) := by decide +kernel
theorem jd_M_serve_165 : decode jb_M_serve 165 = .ok (.dup, 1) := by decide +kernel
theorem jd_M_serve_166 : decode jb_M_serve 166 = .ok (.getfield 193, 3) := by decide +kernel
theorem jd_M_serve_169 : decode jb_M_serve 169 = .ok (.iload 6, 2) := by decide +kernel
theorem jd_M_serve_171 : decode jb_M_serve 171 = .ok (.iadd, 1) := by decide +kernel
theorem jd_M_serve_172 : decode jb_M_serve 172 = .ok (.putfield 193, 3) := by decide +kernel
theorem jd_M_serve_175 : decode jb_M_serve 175 = .ok (.goto 49, 3) := by decide +kernel
theorem jd_M_serve_178 : decode jb_M_serve 178 = .ok (.iload 5, 2) := by decide +kernel
theorem jd_M_serve_180 : decode jb_M_serve 180 = .ok (.ifCond .ne 44, 3) := by decide +kernel
theorem jd_M_serve_183 : decode jb_M_serve 183 = .ok (.aload_n 0, 1) := by decide +kernel
theorem jd_M_serve_184 : decode jb_M_serve 184 = .ok (.getfield 98, 3) := by decide +kernel
theorem jd_M_serve_187 : decode jb_M_serve 187 = .ok (.aload_n 0, 1) := by decide +kernel
theorem jd_M_serve_188 : decode jb_M_serve 188 = .ok (.getfield 196, 3) := by decide +kernel
theorem jd_M_serve_191 : decode jb_M_serve 191 = .ok (.iload_n 3, 1) := by decide +kernel
theorem jd_M_serve_192 : decode jb_M_serve 192 = .ok (.iastore, 1) := by decide +kernel
theorem jd_M_serve_193 : decode jb_M_serve 193 = .ok (.aload_n 0, 1) := by decide +kernel
theorem jd_M_serve_194 : decode jb_M_serve 194 = .ok (.getfield 101, 3) := by decide +kernel
theorem jd_M_serve_197 : decode jb_M_serve 197 = .ok (.aload_n 0, 1) := by decide +kernel
theorem jd_M_serve_198 : decode jb_M_serve 198 = .ok (.getfield 196, 3) := by decide +kernel
theorem jd_M_serve_201 : decode jb_M_serve 201 = .ok (.iload 4, 2) := by decide +kernel
theorem jd_M_serve_203 : decode jb_M_serve 203 = .ok (.iastore, 1) := by decide +kernel
theorem jd_M_serve_204 : decode jb_M_serve 204 = .ok (.aload_n 0, 1) := by decide +kernel
theorem jd_M_serve_205 : decode jb_M_serve 205 = .ok (.getfield 104, 3) := by decide +kernel
theorem jd_M_serve_208 : decode jb_M_serve 208 = .ok (.aload_n 0, 1) := by decide +kernel
theorem jd_M_serve_209 : decode jb_M_serve 209 = .ok (.getfield 196, 3) := by decide +kernel
theorem jd_M_serve_212 : decode jb_M_serve 212 = .ok (.iconst 1, 1) := by decide +kernel
theorem jd_M_serve_213 : decode jb_M_serve 213 = .ok (.bastore, 1) := by decide +kernel
theorem jd_M_serve_214 : decode jb_M_serve 214 = .ok (.aload_n 0, 1) := by decide +kernel
theorem jd_M_serve_215 : decode jb_M_serve 215 = .ok (.dup, 1) := by decide +kernel
theorem jd_M_serve_216 : decode jb_M_serve 216 = .ok (.getfield 196, 3) := by decide +kernel
theorem jd_M_serve_219 : decode jb_M_serve 219 = .ok (.iconst 1, 1) := by decide +kernel
theorem jd_M_serve_220 : decode jb_M_serve 220 = .ok (.iadd, 1) := by decide +kernel
theorem jd_M_serve_221 : decode jb_M_serve 221 = .ok (.putfield 196, 3) := by decide +kernel
theorem jd_M_serve_224 : decode jb_M_serve 224 = .ok (.iinc 2 1, 3) := by decide +kernel
theorem jd_M_serve_227 : decode jb_M_serve 227 = .ok (.goto (-202), 3) := by decide +kernel
theorem jd_M_serve_230 : decode jb_M_serve 230 = .ok (.return_, 1) := by decide +kernel
def f_M_serve_224 (F : Nat) (kb25 : Int32 → Int32 → j_M → Option (Int32 × j_M)) (x1 : Int32) (x2 : Int32) (I : j_M) : Option (Int32 × j_M) := j_let (x2 + 1) (fun v1 => kb25 x1 v1 I)
def f_M_serve_56b (F : Nat) (kb56 : Int32 → Int32 → Int32 → Int32 → Int32 → Int32 → j_M → Option (Int32 × j_M)) (kb25 : Int32 → Int32 → j_M → Option (Int32 × j_M)) (x1 : Int32) (x2 : Int32) (x3 : Int32) (x4 : Int32) (x5 : Int32) (x6 : Int32) (I : j_M) : Option (Int32 × j_M) := (if (I 215 46) ≤ x6 then j_let (j_wr I 215 46 ((I 215 46) - 1)) (fun I2 => (if (I2 215 43) < (x4 * (I2 215 44)) then (if x5 = 0 then (if j_ok (I2 215 46) 60 = true then j_let (j_wr I2 242 (j_ix (I2 215 46)) x3) (fun I3 => (if j_ok (I3 215 46) 60 = true then j_let (j_wr I3 243 (j_ix (I3 215 46)) x4) (fun I4 => (if j_ok (I4 215 46) 60 = true then j_let (j_wr I4 244 (j_ix (I4 215 46)) (1 &&& 1)) (fun I5 => j_let (j_wr I5 215 46 ((I5 215 46) + 1)) (fun I6 => f_M_serve_224 F kb25 x1 x2 I6)) else none)) else none)) else none) else f_M_serve_224 F kb25 x1 x2 I2) else j_let (j_wr I2 215 43 ((I2 215 43) - (x4 * (I2 215 44)))) (fun I7 => (if j_ok x3 100 = true then (if j_ok x3 100 = true then j_let (j_wr I7 231 (j_ix x3) ((I7 231 (j_ix x3)) + x4)) (fun I8 => j_let (j_wr I8 215 27 ((I8 215 27) + x4)) (fun I9 => j_bd (f_M_tonight F 1 x3 x4 I9) (fun v10 I11 => (if j_ok x3 100 = true then (if j_ok x3 100 = true then j_let (j_wr I11 229 (j_ix x3) ((I11 229 (j_ix x3)) + v10)) (fun I12 => j_let (j_wr I12 215 26 ((I12 215 26) + v10)) (fun I13 => f_M_serve_224 F kb25 x1 x2 I13)) else none) else none)))) else none) else none)))) else j_bd (f_M_shift F x6 (x6 - 1) I) (fun v14 I15 => j_let (x6 + 1) (fun v16 => kb56 x1 x2 x3 x4 x5 v16 I15)))
def f_M_serve_56 (F : Nat) (kb25 : Int32 → Int32 → j_M → Option (Int32 × j_M)) (x1 : Int32) (x2 : Int32) (x3 : Int32) (x4 : Int32) (x5 : Int32) (x6 : Int32) (I : j_M) : Option (Int32 × j_M) := j_it (fun (again : Int32 × Int32 × Int32 × Int32 × Int32 × Int32 × j_M → Option (Int32 × j_M)) (q : Int32 × Int32 × Int32 × Int32 × Int32 × Int32 × j_M) => f_M_serve_56b F  (fun x1 x2 x3 x4 x5 x6 I => again (x1, x2, x3, x4, x5, x6, I)) kb25 q.1 q.2.1 q.2.2.1 q.2.2.2.1 q.2.2.2.2.1 q.2.2.2.2.2.1 q.2.2.2.2.2.2) F (x1, x2, x3, x4, x5, x6, I)
def f_M_serve_25b (F : Nat) (kb25 : Int32 → Int32 → j_M → Option (Int32 × j_M)) (x1 : Int32) (x2 : Int32) (I : j_M) : Option (Int32 × j_M) := (if x1 ≤ x2 then some (0, I) else (if j_ok 0 60 = true then j_let (I 242 (j_ix 0)) (fun v17 => (if j_ok 0 60 = true then j_let (I 243 (j_ix 0)) (fun v18 => (if j_ok 0 60 = true then j_let (I 244 (j_ix 0)) (fun v19 => f_M_serve_56 F kb25 x1 x2 v17 v18 v19 1 I) else none)) else none)) else none))
def f_M_serve_25 (F : Nat)  (x1 : Int32) (x2 : Int32) (I : j_M) : Option (Int32 × j_M) := j_it (fun (again : Int32 × Int32 × j_M → Option (Int32 × j_M)) (q : Int32 × Int32 × j_M) => f_M_serve_25b F  (fun x1 x2 I => again (x1, x2, I))  q.1 q.2.1 q.2.2) F (x1, x2, I)
def f_M_serve_22 (F : Nat)  (s0 : Int32) (I : j_M) : Option (Int32 × j_M) := f_M_serve_25 F s0 0 I
def f_M_serve (F : Nat)  (I : j_M) : Option (Int32 × j_M) := (if (I 215 46) ≤ (I 215 45) then f_M_serve_22 F (I 215 46) I else f_M_serve_22 F (I 215 45) I)
set_option maxRecDepth 100000 in
set_option maxHeartbeats 4000000 in
theorem k_M_serve_224 {p : Program} {l : Launch} {e : Env} {R : Room} {s : State} {m : MethodId} {args : Array Value} {below : List Frame} {meth : Method} {c : Code} {g : j_G} {b n : Nat} {P : j_R} {F : Nat} (hF : j_Fx 0 260 P) (hn : 260 ≤ n) (X : j_X p R s m args meth c g b 4 jb_M_serve 7 "PleasureGardenModel" none) {kb25 : Int32 → Int32 → j_M → Option (Int32 × j_M)} (hkb25 : ∀ (x1 : Int32) (x2 : Int32) (I : j_M) (r : Int32 × j_M), kb25 x1 x2 I = some r → j_W p l e R s m args below meth c 7 g b n 0 0 (j_Qv g b n P below args s r) I P 25 [some (.ref (b + 215)), some (.int x1), some (.int x2), none, none, none, none] []) {x1 : Int32} {x2 : Int32} {I : j_M} {r : Int32 × j_M}  (h : f_M_serve_224 F kb25 x1 x2 I = some r) : j_W p l e R s m args below meth c 7 g b n 0 0 (j_Qv g b n P below args s r) I P 224 [some (.ref (b + 215)), some (.int x1), some (.int x2), none, none, none, none] [] := by
  unfold f_M_serve_224 at h
  obtain ⟨v1, ev1, h⟩ := j_ex h
  refine j_iinc (v := v1) (lv' := [some (.ref (b + 215)), some (.int x1), some (.int v1), none, none, none, none]) X jd_M_serve_224 rfl (by rw [ev1]; rfl) (by decide) rfl ?_
  refine j_goto (tgt := 25) X jd_M_serve_227 rfl ?_
  exact hkb25 _ _ _ _ h
set_option maxRecDepth 100000 in
set_option maxHeartbeats 4000000 in
theorem k_M_serve_56b {p : Program} {l : Launch} {e : Env} {R : Room} {s : State} {m : MethodId} {args : Array Value} {below : List Frame} {meth : Method} {c : Code} {g : j_G} {b n : Nat} {P : j_R} {F : Nat} (hF : j_Fx 0 260 P) (hn : 260 ≤ n) (X : j_X p R s m args meth c g b 4 jb_M_serve 7 "PleasureGardenModel" none) {kb56 : Int32 → Int32 → Int32 → Int32 → Int32 → Int32 → j_M → Option (Int32 × j_M)} (hkb56 : ∀ (x1 : Int32) (x2 : Int32) (x3 : Int32) (x4 : Int32) (x5 : Int32) (x6 : Int32) (I : j_M) (r : Int32 × j_M), kb56 x1 x2 x3 x4 x5 x6 I = some r → j_W p l e R s m args below meth c 7 g b n 0 0 (j_Qv g b n P below args s r) I P 56 [some (.ref (b + 215)), some (.int x1), some (.int x2), some (.int x3), some (.int x4), some (.int x5), some (.int x6)] []) {kb25 : Int32 → Int32 → j_M → Option (Int32 × j_M)} (hkb25 : ∀ (x1 : Int32) (x2 : Int32) (I : j_M) (r : Int32 × j_M), kb25 x1 x2 I = some r → j_W p l e R s m args below meth c 7 g b n 0 0 (j_Qv g b n P below args s r) I P 25 [some (.ref (b + 215)), some (.int x1), some (.int x2), none, none, none, none] []) {x1 : Int32} {x2 : Int32} {x3 : Int32} {x4 : Int32} {x5 : Int32} {x6 : Int32} {I : j_M} {r : Int32 × j_M}  (h : f_M_serve_56b F kb56 kb25 x1 x2 x3 x4 x5 x6 I = some r) : j_W p l e R s m args below meth c 7 g b n 0 0 (j_Qv g b n P below args s r) I P 56 [some (.ref (b + 215)), some (.int x1), some (.int x2), some (.int x3), some (.int x4), some (.int x5), some (.int x6)] [] := by
  unfold f_M_serve_56b at h
  refine j_iload X jd_M_serve_56 rfl ?_
  refine j_aload_n X jd_M_serve_58 rfl rfl ?_
  refine j_get X jf_M_196 jk_12_46 js_215 (j_lt rfl hn) jd_M_serve_59 ?_
  refine j_icmp_ge (tgt := 81) X jd_M_serve_62 rfl h (fun h => ?_) (fun h => ?_)
  · refine j_aload_n X jd_M_serve_81 rfl rfl ?_
    refine j_dup X jd_M_serve_82 rfl ?_
    refine j_get X jf_M_196 jk_12_46 js_215 (j_lt rfl hn) jd_M_serve_83 ?_
    refine j_iconst (v := 1) X jd_M_serve_86 (by decide) ?_
    refine j_isub X jd_M_serve_87 ?_
    refine j_puti X jt_M jto_M jn_M jf_M_196 jk_12_46 js_215 (j_lt rfl hn) (Or.inl rfl) rfl jd_M_serve_88 ?_
    refine j_mem h (fun I2 h => ?_)
    refine j_aload_n X jd_M_serve_91 rfl rfl ?_
    refine j_get X jf_M_266 jk_12_43 js_215 (j_lt rfl hn) jd_M_serve_92 ?_
    refine j_iload X jd_M_serve_95 rfl ?_
    refine j_aload_n X jd_M_serve_97 rfl rfl ?_
    refine j_get X jf_M_91 jk_12_44 js_215 (j_lt rfl hn) jd_M_serve_98 ?_
    refine j_imul X jd_M_serve_101 ?_
    refine j_icmp_lt (tgt := 178) X jd_M_serve_102 rfl h (fun h => ?_) (fun h => ?_)
    · refine j_iload X jd_M_serve_178 rfl ?_
      refine j_if_ne (tgt := 224) X jd_M_serve_180 rfl h (fun h => ?_) (fun h => ?_)
      · refine j_aload_n X jd_M_serve_183 rfl rfl ?_
        refine j_getr X jf_M_98 jk_12_47 js_215 (j_lt rfl hn) (jp_215_47 hF) jd_M_serve_184 ?_
        refine j_aload_n X jd_M_serve_187 rfl rfl ?_
        refine j_get X jf_M_196 jk_12_46 js_215 (j_lt rfl hn) jd_M_serve_188 ?_
        refine j_iload_n X jd_M_serve_191 rfl rfl ?_
        refine j_iast X js_242 (j_lt rfl hn) jd_M_serve_192 h (fun h => ?_)
        refine j_mem h (fun I3 h => ?_)
        refine j_aload_n X jd_M_serve_193 rfl rfl ?_
        refine j_getr X jf_M_101 jk_12_48 js_215 (j_lt rfl hn) (jp_215_48 hF) jd_M_serve_194 ?_
        refine j_aload_n X jd_M_serve_197 rfl rfl ?_
        refine j_get X jf_M_196 jk_12_46 js_215 (j_lt rfl hn) jd_M_serve_198 ?_
        refine j_iload X jd_M_serve_201 rfl ?_
        refine j_iast X js_243 (j_lt rfl hn) jd_M_serve_203 h (fun h => ?_)
        refine j_mem h (fun I4 h => ?_)
        refine j_aload_n X jd_M_serve_204 rfl rfl ?_
        refine j_getr X jf_M_104 jk_12_49 js_215 (j_lt rfl hn) (jp_215_49 hF) jd_M_serve_205 ?_
        refine j_aload_n X jd_M_serve_208 rfl rfl ?_
        refine j_get X jf_M_196 jk_12_46 js_215 (j_lt rfl hn) jd_M_serve_209 ?_
        refine j_iconst (v := 1) X jd_M_serve_212 (by decide) ?_
        refine j_zast X js_244 (j_lt rfl hn) jd_M_serve_213 h (fun h => ?_)
        refine j_mem h (fun I5 h => ?_)
        refine j_aload_n X jd_M_serve_214 rfl rfl ?_
        refine j_dup X jd_M_serve_215 rfl ?_
        refine j_get X jf_M_196 jk_12_46 js_215 (j_lt rfl hn) jd_M_serve_216 ?_
        refine j_iconst (v := 1) X jd_M_serve_219 (by decide) ?_
        refine j_iadd X jd_M_serve_220 ?_
        refine j_puti X jt_M jto_M jn_M jf_M_196 jk_12_46 js_215 (j_lt rfl hn) (Or.inl rfl) rfl jd_M_serve_221 ?_
        refine j_mem h (fun I6 h => ?_)
        refine j_sub [true, true, true, false, false, false, false] (lv' := [some (.ref (b + 215)), some (.int x1), some (.int x2), none, none, none, none]) rfl ?_
        exact k_M_serve_224 hF hn X hkb25 h
      · refine j_sub [true, true, true, false, false, false, false] (lv' := [some (.ref (b + 215)), some (.int x1), some (.int x2), none, none, none, none]) rfl ?_
        exact k_M_serve_224 hF hn X hkb25 h
    · refine j_aload_n X jd_M_serve_105 rfl rfl ?_
      refine j_dup X jd_M_serve_106 rfl ?_
      refine j_get X jf_M_266 jk_12_43 js_215 (j_lt rfl hn) jd_M_serve_107 ?_
      refine j_iload X jd_M_serve_110 rfl ?_
      refine j_aload_n X jd_M_serve_112 rfl rfl ?_
      refine j_get X jf_M_91 jk_12_44 js_215 (j_lt rfl hn) jd_M_serve_113 ?_
      refine j_imul X jd_M_serve_116 ?_
      refine j_isub X jd_M_serve_117 ?_
      refine j_puti X jt_M jto_M jn_M jf_M_266 jk_12_43 js_215 (j_lt rfl hn) (Or.inl rfl) rfl jd_M_serve_118 ?_
      refine j_mem h (fun I7 h => ?_)
      refine j_aload_n X jd_M_serve_121 rfl rfl ?_
      refine j_getr X jf_M_56 jk_12_21 js_215 (j_lt rfl hn) (jp_215_21 hF) jd_M_serve_122 ?_
      refine j_iload_n X jd_M_serve_125 rfl rfl ?_
      refine j_dup2 X jd_M_serve_126 rfl rfl ?_
      refine j_iald X js_231 (j_lt rfl hn) jd_M_serve_127 h (fun _ h => ?_)
      refine j_iload X jd_M_serve_128 rfl ?_
      refine j_iadd X jd_M_serve_130 ?_
      refine j_iast X js_231 (j_lt rfl hn) jd_M_serve_131 h (fun h => ?_)
      refine j_mem h (fun I8 h => ?_)
      refine j_aload_n X jd_M_serve_132 rfl rfl ?_
      refine j_dup X jd_M_serve_133 rfl ?_
      refine j_get X jf_M_270 jk_12_27 js_215 (j_lt rfl hn) jd_M_serve_134 ?_
      refine j_iload X jd_M_serve_137 rfl ?_
      refine j_iadd X jd_M_serve_139 ?_
      refine j_puti X jt_M jto_M jn_M jf_M_270 jk_12_27 js_215 (j_lt rfl hn) (Or.inl rfl) rfl jd_M_serve_140 ?_
      refine j_mem h (fun I9 h => ?_)
      refine j_aload_n X jd_M_serve_143 rfl rfl ?_
      refine j_iconst (v := 1) X jd_M_serve_144 (by decide) ?_
      refine j_iload_n X jd_M_serve_145 rfl rfl ?_
      refine j_iload X jd_M_serve_146 rfl ?_
      refine j_callVi (As := [.int 1, .int x3, .int x4]) (st := []) (c0 := 215) X h jc_M js_215 (j_lt rfl hn) ⟨jqc_M_tonight, jqi_M_tonight, jqv_M_tonight, jqn_M⟩ jlm_M_189 jh_M_tonight rfl (by decide) (by decide) (Nat.le_of_ble_eq_true rfl) ⟨Nat.zero_le _, Nat.zero_le _⟩ (fun v0 I0 h => k_M_tonight (r := (v0, I0)) hF hn h) jd_M_serve_148 rfl (fun v10 I11 h => ?_)
      refine j_istore (lv' := [some (.ref (b + 215)), some (.int x1), some (.int x2), some (.int x3), some (.int x4), some (.int x5), some (.int v10)]) X jd_M_serve_151 (by decide) rfl ?_
      refine j_aload_n X jd_M_serve_153 rfl rfl ?_
      refine j_getr X jf_M_50 jk_12_19 js_215 (j_lt rfl hn) (jp_215_19 hF) jd_M_serve_154 ?_
      refine j_iload_n X jd_M_serve_157 rfl rfl ?_
      refine j_dup2 X jd_M_serve_158 rfl rfl ?_
      refine j_iald X js_229 (j_lt rfl hn) jd_M_serve_159 h (fun _ h => ?_)
      refine j_iload X jd_M_serve_160 rfl ?_
      refine j_iadd X jd_M_serve_162 ?_
      refine j_iast X js_229 (j_lt rfl hn) jd_M_serve_163 h (fun h => ?_)
      refine j_mem h (fun I12 h => ?_)
      refine j_aload_n X jd_M_serve_164 rfl rfl ?_
      refine j_dup X jd_M_serve_165 rfl ?_
      refine j_get X jf_M_193 jk_12_26 js_215 (j_lt rfl hn) jd_M_serve_166 ?_
      refine j_iload X jd_M_serve_169 rfl ?_
      refine j_iadd X jd_M_serve_171 ?_
      refine j_puti X jt_M jto_M jn_M jf_M_193 jk_12_26 js_215 (j_lt rfl hn) (Or.inl rfl) rfl jd_M_serve_172 ?_
      refine j_mem h (fun I13 h => ?_)
      refine j_goto (tgt := 224) X jd_M_serve_175 rfl ?_
      refine j_sub [true, true, true, false, false, false, false] (lv' := [some (.ref (b + 215)), some (.int x1), some (.int x2), none, none, none, none]) rfl ?_
      exact k_M_serve_224 hF hn X hkb25 h
  · refine j_aload_n X jd_M_serve_65 rfl rfl ?_
    refine j_iload X jd_M_serve_66 rfl ?_
    refine j_iload X jd_M_serve_68 rfl ?_
    refine j_iconst (v := 1) X jd_M_serve_70 (by decide) ?_
    refine j_isub X jd_M_serve_71 ?_
    refine j_callVv (As := [.int x6, .int (x6 - 1)]) (st := []) (c0 := 215) X h jc_M js_215 (j_lt rfl hn) ⟨jqc_M_shift, jqi_M_shift, jqv_M_shift, jqn_M⟩ jlm_M_199 jh_M_shift rfl (by decide) (by decide) (Nat.le_of_ble_eq_true rfl) ⟨Nat.zero_le _, Nat.zero_le _⟩ (fun v0 I0 h => k_M_shift (r := (v0, I0)) hF hn h) jd_M_serve_72 rfl (fun v14 I15 h => ?_)
    obtain ⟨v16, ev16, h⟩ := j_ex h
    refine j_iinc (v := v16) (lv' := [some (.ref (b + 215)), some (.int x1), some (.int x2), some (.int x3), some (.int x4), some (.int x5), some (.int v16)]) X jd_M_serve_75 rfl (by rw [ev16]; rfl) (by decide) rfl ?_
    refine j_goto (tgt := 56) X jd_M_serve_78 rfl ?_
    exact hkb56 _ _ _ _ _ _ _ _ h
set_option maxRecDepth 100000 in
set_option maxHeartbeats 4000000 in
theorem k_M_serve_56 {p : Program} {l : Launch} {e : Env} {R : Room} {s : State} {m : MethodId} {args : Array Value} {below : List Frame} {meth : Method} {c : Code} {g : j_G} {b n : Nat} {P : j_R} {F : Nat} (hF : j_Fx 0 260 P) (hn : 260 ≤ n) (X : j_X p R s m args meth c g b 4 jb_M_serve 7 "PleasureGardenModel" none) {kb25 : Int32 → Int32 → j_M → Option (Int32 × j_M)} (hkb25 : ∀ (x1 : Int32) (x2 : Int32) (I : j_M) (r : Int32 × j_M), kb25 x1 x2 I = some r → j_W p l e R s m args below meth c 7 g b n 0 0 (j_Qv g b n P below args s r) I P 25 [some (.ref (b + 215)), some (.int x1), some (.int x2), none, none, none, none] []) {x1 : Int32} {x2 : Int32} {x3 : Int32} {x4 : Int32} {x5 : Int32} {x6 : Int32} {I : j_M} {r : Int32 × j_M} (h : f_M_serve_56 F kb25 x1 x2 x3 x4 x5 x6 I = some r) : j_W p l e R s m args below meth c 7 g b n 0 0 (j_Qv g b n P below args s r) I P 56 [some (.ref (b + 215)), some (.int x1), some (.int x2), some (.int x3), some (.int x4), some (.int x5), some (.int x6)] [] := by
  refine j_loop (G := fun (q : Int32 × Int32 × Int32 × Int32 × Int32 × Int32 × j_M) (r : Int32 × j_M) => j_W p l e R s m args below meth c 7 g b n 0 0 (j_Qv g b n P below args s r) q.2.2.2.2.2.2 P 56 [some (.ref (b + 215)), some (.int (q.1)), some (.int (q.2.1)), some (.int (q.2.2.1)), some (.int (q.2.2.2.1)), some (.int (q.2.2.2.2.1)), some (.int (q.2.2.2.2.2.1))] []) ?_ F (x1, x2, x3, x4, x5, x6, I) r h
  intro again hrec0 q r h
  exact k_M_serve_56b hF hn X (fun x1 x2 x3 x4 x5 x6 I r h => hrec0 (x1, x2, x3, x4, x5, x6, I) r h) hkb25 h
set_option maxRecDepth 100000 in
set_option maxHeartbeats 4000000 in
theorem k_M_serve_25b {p : Program} {l : Launch} {e : Env} {R : Room} {s : State} {m : MethodId} {args : Array Value} {below : List Frame} {meth : Method} {c : Code} {g : j_G} {b n : Nat} {P : j_R} {F : Nat} (hF : j_Fx 0 260 P) (hn : 260 ≤ n) (X : j_X p R s m args meth c g b 4 jb_M_serve 7 "PleasureGardenModel" none) {kb25 : Int32 → Int32 → j_M → Option (Int32 × j_M)} (hkb25 : ∀ (x1 : Int32) (x2 : Int32) (I : j_M) (r : Int32 × j_M), kb25 x1 x2 I = some r → j_W p l e R s m args below meth c 7 g b n 0 0 (j_Qv g b n P below args s r) I P 25 [some (.ref (b + 215)), some (.int x1), some (.int x2), none, none, none, none] []) {x1 : Int32} {x2 : Int32} {I : j_M} {r : Int32 × j_M}  (h : f_M_serve_25b F kb25 x1 x2 I = some r) : j_W p l e R s m args below meth c 7 g b n 0 0 (j_Qv g b n P below args s r) I P 25 [some (.ref (b + 215)), some (.int x1), some (.int x2), none, none, none, none] [] := by
  unfold f_M_serve_25b at h
  refine j_iload_n X jd_M_serve_25 rfl rfl ?_
  refine j_iload_n X jd_M_serve_26 rfl rfl ?_
  refine j_icmp_ge (tgt := 230) X jd_M_serve_27 rfl h (fun h => ?_) (fun h => ?_)
  · exact j_vret X rfl jd_M_serve_230 h
  · refine j_aload_n X jd_M_serve_30 rfl rfl ?_
    refine j_getr X jf_M_98 jk_12_47 js_215 (j_lt rfl hn) (jp_215_47 hF) jd_M_serve_31 ?_
    refine j_iconst (v := 0) X jd_M_serve_34 (by decide) ?_
    refine j_iald X js_242 (j_lt rfl hn) jd_M_serve_35 h (fun _ h => ?_)
    refine j_nm h (fun v17 h => ?_)
    refine j_istore_n (lv' := [some (.ref (b + 215)), some (.int x1), some (.int x2), some (.int v17), none, none, none]) X jd_M_serve_36 rfl (by decide) rfl ?_
    refine j_aload_n X jd_M_serve_37 rfl rfl ?_
    refine j_getr X jf_M_101 jk_12_48 js_215 (j_lt rfl hn) (jp_215_48 hF) jd_M_serve_38 ?_
    refine j_iconst (v := 0) X jd_M_serve_41 (by decide) ?_
    refine j_iald X js_243 (j_lt rfl hn) jd_M_serve_42 h (fun _ h => ?_)
    refine j_nm h (fun v18 h => ?_)
    refine j_istore (lv' := [some (.ref (b + 215)), some (.int x1), some (.int x2), some (.int v17), some (.int v18), none, none]) X jd_M_serve_43 (by decide) rfl ?_
    refine j_aload_n X jd_M_serve_45 rfl rfl ?_
    refine j_getr X jf_M_104 jk_12_49 js_215 (j_lt rfl hn) (jp_215_49 hF) jd_M_serve_46 ?_
    refine j_iconst (v := 0) X jd_M_serve_49 (by decide) ?_
    refine j_zald X js_244 (j_lt rfl hn) jd_M_serve_50 h (fun _ h => ?_)
    refine j_nm h (fun v19 h => ?_)
    refine j_istore (lv' := [some (.ref (b + 215)), some (.int x1), some (.int x2), some (.int v17), some (.int v18), some (.int v19), none]) X jd_M_serve_51 (by decide) rfl ?_
    refine j_iconst (v := 1) X jd_M_serve_53 (by decide) ?_
    refine j_istore (lv' := [some (.ref (b + 215)), some (.int x1), some (.int x2), some (.int v17), some (.int v18), some (.int v19), some (.int 1)]) X jd_M_serve_54 (by decide) rfl ?_
    exact k_M_serve_56 hF hn X hkb25 h
set_option maxRecDepth 100000 in
set_option maxHeartbeats 4000000 in
theorem k_M_serve_25 {p : Program} {l : Launch} {e : Env} {R : Room} {s : State} {m : MethodId} {args : Array Value} {below : List Frame} {meth : Method} {c : Code} {g : j_G} {b n : Nat} {P : j_R} {F : Nat} (hF : j_Fx 0 260 P) (hn : 260 ≤ n) (X : j_X p R s m args meth c g b 4 jb_M_serve 7 "PleasureGardenModel" none)  {x1 : Int32} {x2 : Int32} {I : j_M} {r : Int32 × j_M} (h : f_M_serve_25 F x1 x2 I = some r) : j_W p l e R s m args below meth c 7 g b n 0 0 (j_Qv g b n P below args s r) I P 25 [some (.ref (b + 215)), some (.int x1), some (.int x2), none, none, none, none] [] := by
  refine j_loop (G := fun (q : Int32 × Int32 × j_M) (r : Int32 × j_M) => j_W p l e R s m args below meth c 7 g b n 0 0 (j_Qv g b n P below args s r) q.2.2 P 25 [some (.ref (b + 215)), some (.int (q.1)), some (.int (q.2.1)), none, none, none, none] []) ?_ F (x1, x2, I) r h
  intro again hrec0 q r h
  exact k_M_serve_25b hF hn X (fun x1 x2 I r h => hrec0 (x1, x2, I) r h)  h
set_option maxRecDepth 100000 in
set_option maxHeartbeats 4000000 in
theorem k_M_serve_22 {p : Program} {l : Launch} {e : Env} {R : Room} {s : State} {m : MethodId} {args : Array Value} {below : List Frame} {meth : Method} {c : Code} {g : j_G} {b n : Nat} {P : j_R} {F : Nat} (hF : j_Fx 0 260 P) (hn : 260 ≤ n) (X : j_X p R s m args meth c g b 4 jb_M_serve 7 "PleasureGardenModel" none)  {s0 : Int32} {I : j_M} {r : Int32 × j_M}  (h : f_M_serve_22 F s0 I = some r) : j_W p l e R s m args below meth c 7 g b n 0 0 (j_Qv g b n P below args s r) I P 22 [some (.ref (b + 215)), none, none, none, none, none, none] [.int s0] := by
  unfold f_M_serve_22 at h
  refine j_istore_n (lv' := [some (.ref (b + 215)), some (.int s0), none, none, none, none, none]) X jd_M_serve_22 rfl (by decide) rfl ?_
  refine j_iconst (v := 0) X jd_M_serve_23 (by decide) ?_
  refine j_istore_n (lv' := [some (.ref (b + 215)), some (.int s0), some (.int 0), none, none, none, none]) X jd_M_serve_24 rfl (by decide) rfl ?_
  exact k_M_serve_25 hF hn X h
set_option maxRecDepth 100000 in
set_option maxHeartbeats 4000000 in
theorem k_M_serve {l : Launch} {g : j_G} {b n : Nat} {P : j_R} {F : Nat} (hF : j_Fx 0 260 P) (hn : 260 ≤ n)  {I : j_M} {r : Int32 × j_M}  (h : f_M_serve F I = some r) : j_Met l g b n P 4 jy_M_serve jb_M_serve 7 none [.ref (b + 215)] I r.2 none := by
  unfold f_M_serve at h
  refine j_enter (plainFor_of_name (by decide)) (Nat.le_of_ble_eq_true rfl) [some (.ref (b + 215)), none, none, none, none, none, none] rfl ?_
  intro p e R s m args below meth c X0 hnm hRc hRs
  have X : j_X p R s m args meth c g b 4 jb_M_serve 7 "PleasureGardenModel" none := X0
  clear X0
  refine j_aload_n X jd_M_serve_0 rfl rfl ?_
  refine j_get X jf_M_95 jk_12_45 js_215 (j_lt rfl hn) jd_M_serve_1 ?_
  refine j_aload_n X jd_M_serve_4 rfl rfl ?_
  refine j_get X jf_M_196 jk_12_46 js_215 (j_lt rfl hn) jd_M_serve_5 ?_
  refine j_icmp_ge (tgt := 18) X jd_M_serve_8 rfl h (fun h => ?_) (fun h => ?_)
  · refine j_aload_n X jd_M_serve_18 rfl rfl ?_
    refine j_get X jf_M_196 jk_12_46 js_215 (j_lt rfl hn) jd_M_serve_19 ?_
    exact k_M_serve_22 hF hn X h
  · refine j_aload_n X jd_M_serve_11 rfl rfl ?_
    refine j_get X jf_M_95 jk_12_45 js_215 (j_lt rfl hn) jd_M_serve_12 ?_
    refine j_goto (tgt := 22) X jd_M_serve_15 rfl ?_
    exact k_M_serve_22 hF hn X h
-- PleasureGardenModel.leave(I)I
theorem jd_M_leave_0 : decode jb_M_leave 0 = .ok (.aload_n 0, 1) := by decide +kernel
theorem jd_M_leave_1 : decode jb_M_leave 1 = .ok (.iload_n 1, 1) := by decide +kernel
theorem jd_M_leave_2 : decode jb_M_leave 2 = .ok (.invokevirtual 206, 3) := by decide +kernel
theorem jd_M_leave_5 : decode jb_M_leave 5 = .ok (.ifCond .ne 5, 3) := by decide +kernel
theorem jd_M_leave_8 : decode jb_M_leave 8 = .ok (.iconst (-1), 1) := by decide +kernel
theorem jd_M_leave_9 : decode jb_M_leave 9 = .ok (.ireturn, 1) := by decide +kernel
theorem jd_M_leave_10 : decode jb_M_leave 10 = .ok (.aload_n 0, 1) := by decide +kernel
theorem jd_M_leave_11 : decode jb_M_leave 11 = .ok (.getfield 38, 3) := by decide +kernel
theorem jd_M_leave_14 : decode jb_M_leave 14 = .ok (.iload_n 1, 1) := by decide +kernel
theorem jd_M_leave_15 : decode jb_M_leave 15 = .ok (.iaload, 1) := by decide +kernel
theorem jd_M_leave_16 : decode jb_M_leave 16 = .ok (.ifCond .ne 12, 3) := by decide +kernel
theorem jd_M_leave_19 : decode jb_M_leave 19 = .ok (.aload_n 0, 1) := by decide +kernel
theorem jd_M_leave_20 : decode jb_M_leave 20 = .ok (.getfield 41, 3) := by decide +kernel
theorem jd_M_leave_23 : decode jb_M_leave 23 = .ok (.iload_n 1, 1) := by decide +kernel
theorem jd_M_leave_24 : decode jb_M_leave 24 = .ok (.iaload, 1) := by decide +kernel
theorem jd_M_leave_25 : decode jb_M_leave 25 = .ok (.ifCond .eq 6, 3) := by decide +kernel
theorem jd_M_leave_28 : decode jb_M_leave 28 = .ok (.bipush (-2), 2) := by decide +kernel
theorem jd_M_leave_30 : decode jb_M_leave 30 = .ok (.ireturn, 1) := by decide +kernel
theorem jd_M_leave_31 : decode jb_M_leave 31 = .ok (.aload_n 0, 1) := by decide +kernel
theorem jd_M_leave_32 : decode jb_M_leave 32 = .ok (.iload_n 1, 1) := by decide +kernel
theorem jd_M_leave_33 : decode jb_M_leave 33 = .ok (.invokevirtual 213, 3) := by decide +kernel
theorem jd_M_leave_36 : decode jb_M_leave 36 = .ok (.aload_n 0, 1) := by decide +kernel
theorem jd_M_leave_37 : decode jb_M_leave 37 = .ok (.getfield 53, 3) := by decide +kernel
theorem jd_M_leave_40 : decode jb_M_leave 40 = .ok (.iload_n 1, 1) := by decide +kernel
theorem jd_M_leave_41 : decode jb_M_leave 41 = .ok (.iaload, 1) := by decide +kernel
theorem jd_M_leave_42 : decode jb_M_leave 42 = .ok (.ireturn, 1) := by decide +kernel
def f_M_leave (F : Nat) (x1 : Int32) (I : j_M) : Option (Int32 × j_M) := j_bd (f_M_isParty F x1 I) (fun v1 I2 => (if v1 = 0 then some ((-1), I2) else (if j_ok x1 100 = true then (if (I2 225 (j_ix x1)) = 0 then (if j_ok x1 100 = true then (if (I2 226 (j_ix x1)) = 0 then j_bd (f_M_goesOut F x1 I2) (fun v3 I4 => (if j_ok x1 100 = true then some (I4 230 (j_ix x1), I4) else none)) else some ((-2), I2)) else none) else some ((-2), I2)) else none)))
set_option maxRecDepth 100000 in
set_option maxHeartbeats 4000000 in
theorem k_M_leave {l : Launch} {g : j_G} {b n : Nat} {P : j_R} {F : Nat} (hF : j_Fx 0 260 P) (hn : 260 ≤ n) {x1 : Int32} {I : j_M} {r : Int32 × j_M}  (h : f_M_leave F x1 I = some r) : j_Met l g b n P 5 jy_M_leave jb_M_leave 2 (some .int) [.ref (b + 215), .int x1] I r.2 (some (.int r.1)) := by
  unfold f_M_leave at h
  refine j_enter (plainFor_of_name (by decide)) (Nat.le_of_ble_eq_true rfl) [some (.ref (b + 215)), some (.int x1)] rfl ?_
  intro p e R s m args below meth c X0 hnm hRc hRs
  have X : j_X p R s m args meth c g b 5 jb_M_leave 2 "PleasureGardenModel" (some .int) := X0
  clear X0
  refine j_aload_n X jd_M_leave_0 rfl rfl ?_
  refine j_iload_n X jd_M_leave_1 rfl rfl ?_
  refine j_callVi (As := [.int x1]) (st := []) (c0 := 215) X h jc_M js_215 (j_lt rfl hn) ⟨jqc_M_isParty, jqi_M_isParty, jqv_M_isParty, jqn_M⟩ jlm_M_206 jh_M_isParty rfl (by decide) (by decide) (Nat.le_of_ble_eq_true rfl) ⟨Nat.zero_le _, Nat.zero_le _⟩ (fun v0 I0 h => k_M_isParty (r := (v0, I0)) hF hn h) jd_M_leave_2 rfl (fun v1 I2 h => ?_)
  refine j_if_ne (tgt := 10) X jd_M_leave_5 rfl h (fun h => ?_) (fun h => ?_)
  · refine j_iconst (v := (-1)) X jd_M_leave_8 (by decide) ?_
    exact j_iret X rfl jd_M_leave_9 h
  · refine j_aload_n X jd_M_leave_10 rfl rfl ?_
    refine j_getr X jf_M_38 jk_12_15 js_215 (j_lt rfl hn) (jp_215_15 hF) jd_M_leave_11 ?_
    refine j_iload_n X jd_M_leave_14 rfl rfl ?_
    refine j_iald X js_225 (j_lt rfl hn) jd_M_leave_15 h (fun _ h => ?_)
    refine j_if_ne (tgt := 28) X jd_M_leave_16 rfl h (fun h => ?_) (fun h => ?_)
    · refine j_aload_n X jd_M_leave_19 rfl rfl ?_
      refine j_getr X jf_M_41 jk_12_16 js_215 (j_lt rfl hn) (jp_215_16 hF) jd_M_leave_20 ?_
      refine j_iload_n X jd_M_leave_23 rfl rfl ?_
      refine j_iald X js_226 (j_lt rfl hn) jd_M_leave_24 h (fun _ h => ?_)
      refine j_if_eq (tgt := 31) X jd_M_leave_25 rfl h (fun h => ?_) (fun h => ?_)
      · refine j_aload_n X jd_M_leave_31 rfl rfl ?_
        refine j_iload_n X jd_M_leave_32 rfl rfl ?_
        refine j_callVv (As := [.int x1]) (st := []) (c0 := 215) X h jc_M js_215 (j_lt rfl hn) ⟨jqc_M_goesOut, jqi_M_goesOut, jqv_M_goesOut, jqn_M⟩ jlm_M_213 jh_M_goesOut rfl (by decide) (by decide) (Nat.le_of_ble_eq_true rfl) ⟨Nat.zero_le _, Nat.zero_le _⟩ (fun v0 I0 h => k_M_goesOut (r := (v0, I0)) hF hn h) jd_M_leave_33 rfl (fun v3 I4 h => ?_)
        refine j_aload_n X jd_M_leave_36 rfl rfl ?_
        refine j_getr X jf_M_53 jk_12_20 js_215 (j_lt rfl hn) (jp_215_20 hF) jd_M_leave_37 ?_
        refine j_iload_n X jd_M_leave_40 rfl rfl ?_
        refine j_iald X js_230 (j_lt rfl hn) jd_M_leave_41 h (fun _ h => ?_)
        exact j_iret X rfl jd_M_leave_42 h
      · refine j_bipush (v := (-2)) X jd_M_leave_28 (by decide) ?_
        exact j_iret X rfl jd_M_leave_30 h
    · refine j_bipush (v := (-2)) X jd_M_leave_28 (by decide) ?_
      exact j_iret X rfl jd_M_leave_30 h
-- PleasureGardenModel.minutes(I)I
theorem jd_M_minutes_0 : decode jb_M_minutes 0 = .ok (.iload_n 1, 1) := by decide +kernel
theorem jd_M_minutes_1 : decode jb_M_minutes 1 = .ok (.iconst 1, 1) := by decide +kernel
theorem jd_M_minutes_2 : decode jb_M_minutes 2 = .ok (.bipush 60, 2) := by decide +kernel
theorem jd_M_minutes_4 : decode jb_M_minutes 4 = .ok (.invokestatic 158, 3) := by decide +kernel
theorem jd_M_minutes_7 : decode jb_M_minutes 7 = .ok (.ifCond .eq 15, 3) := by decide +kernel
theorem jd_M_minutes_10 : decode jb_M_minutes 10 = .ok (.aload_n 0, 1) := by decide +kernel
theorem jd_M_minutes_11 : decode jb_M_minutes 11 = .ok (.getfield 171, 3) := by decide +kernel
theorem jd_M_minutes_14 : decode jb_M_minutes 14 = .ok (.iload_n 1, 1) := by decide +kernel
theorem jd_M_minutes_15 : decode jb_M_minutes 15 = .ok (.iadd, 1) := by decide +kernel
theorem jd_M_minutes_16 : decode jb_M_minutes 16 = .ok (.sipush 479, 3) := by decide +kernel
theorem jd_M_minutes_19 : decode jb_M_minutes 19 = .ok (.if_icmp .le 5, 3) := by decide +kernel
theorem jd_M_minutes_22 : decode jb_M_minutes 22 = .ok (.iconst (-1), 1) := by decide +kernel
theorem jd_M_minutes_23 : decode jb_M_minutes 23 = .ok (.ireturn, 1) := by decide +kernel
theorem jd_M_minutes_24 : decode jb_M_minutes 24 = .ok (.iconst 0, 1) := by decide +kernel
theorem jd_M_minutes_25 : decode jb_M_minutes 25 = .ok (.istore_n 2, 1) := by decide +kernel
theorem jd_M_minutes_26 : decode jb_M_minutes 26 = .ok (.iload_n 2, 1) := by decide +kernel
theorem jd_M_minutes_27 : decode jb_M_minutes 27 = .ok (.iload_n 1, 1) := by decide +kernel
theorem jd_M_minutes_28 : decode jb_M_minutes 28 = .ok (.if_icmp .ge 255, 3) := by decide +kernel
theorem jd_M_minutes_31 : decode jb_M_minutes 31 = .ok (.aload_n 0, 1) := by decide +kernel
theorem jd_M_minutes_32 : decode jb_M_minutes 32 = .ok (.getfield 171, 3) := by decide +kernel
theorem jd_M_minutes_35 : decode jb_M_minutes 35 = .ok (.ifCond .ne 7, 3) := by decide +kernel
theorem jd_M_minutes_38 : decode jb_M_minutes 38 = .ok (.aload_n 0, 1) := by decide +kernel
theorem jd_M_minutes_39 : decode jb_M_minutes 39 = .ok (.invokevirtual 220, 3) := by decide +kernel
theorem jd_M_minutes_42 : decode jb_M_minutes 42 = .ok (.aload_n 0, 1) := by decide +kernel
theorem jd_M_minutes_43 : decode jb_M_minutes 43 = .ok (.dup, 1) := by decide +kernel
theorem jd_M_minutes_44 : decode jb_M_minutes 44 = .ok (.getfield 171, 3) := by decide +kernel
theorem jd_M_minutes_47 : decode jb_M_minutes 47 = .ok (.iconst 1, 1) := by decide +kernel
theorem jd_M_minutes_48 : decode jb_M_minutes 48 = .ok (.iadd, 1) := by decide +kernel
theorem jd_M_minutes_49 : decode jb_M_minutes 49 = .ok (.putfield 171, 3) := by decide +kernel
theorem jd_M_minutes_52 : decode jb_M_minutes 52 = .ok (.iconst 0, 1) := by decide +kernel
theorem jd_M_minutes_53 : decode jb_M_minutes 53 = .ok (.istore_n 3, 1) := by decide +kernel
theorem jd_M_minutes_54 : decode jb_M_minutes 54 = .ok (.iload_n 3, 1) := by decide +kernel
theorem jd_M_minutes_55 : decode jb_M_minutes 55 = .ok (.bipush 100, 2) := by decide +kernel
theorem jd_M_minutes_57 : decode jb_M_minutes 57 = .ok (.if_icmp .ge 24, 3) := by decide +kernel
theorem jd_M_minutes_60 : decode jb_M_minutes 60 = .ok (.aload_n 0, 1) := by decide +kernel
theorem jd_M_minutes_61 : decode jb_M_minutes 61 = .ok (.getfield 63, 3) := by decide +kernel
theorem jd_M_minutes_64 : decode jb_M_minutes 64 = .ok (.bipush 100, 2) := by decide +kernel
theorem jd_M_minutes_66 : decode jb_M_minutes 66 = .ok (.aload_n 0, 1) := by decide +kernel
theorem jd_M_minutes_67 : decode jb_M_minutes 67 = .ok (.getfield 171, 3) := by decide +kernel
theorem jd_M_minutes_70 : decode jb_M_minutes 70 = .ok (.imul, 1) := by decide +kernel
theorem jd_M_minutes_71 : decode jb_M_minutes 71 = .ok (.iload_n 3, 1) := by decide +kernel
theorem jd_M_minutes_72 : decode jb_M_minutes 72 = .ok (.iadd, 1) := by decide +kernel
theorem jd_M_minutes_73 : decode jb_M_minutes 73 = .ok (.iconst 0, 1) := by decide +kernel
theorem jd_M_minutes_74 : decode jb_M_minutes 74 = .ok (.bastore, 1) := by decide +kernel
theorem jd_M_minutes_75 : decode jb_M_minutes 75 = .ok (.iinc 3 1, 3) := by decide +kernel
theorem jd_M_minutes_78 : decode jb_M_minutes 78 = .ok (.goto (-24), 3) := by decide +kernel
theorem jd_M_minutes_81 : decode jb_M_minutes 81 = .ok (.iconst 0, 1) := by decide +kernel
theorem jd_M_minutes_82 : decode jb_M_minutes 82 = .ok (.istore_n 3, 1) := by decide +kernel
theorem jd_M_minutes_83 : decode jb_M_minutes 83 = .ok (.iload_n 3, 1) := by decide +kernel
theorem jd_M_minutes_84 : decode jb_M_minutes 84 = .ok (.aload_n 0, 1) := by decide +kernel
theorem jd_M_minutes_85 : decode jb_M_minutes 85 = .ok (.getfield 180, 3) := by decide +kernel
theorem jd_M_minutes_88 : decode jb_M_minutes 88 = .ok (.if_icmp .ge 49, 3) := by decide +kernel
theorem jd_M_minutes_91 : decode jb_M_minutes 91 = .ok (.aload_n 0, 1) := by decide +kernel
theorem jd_M_minutes_92 : decode jb_M_minutes 92 = .ok (.getfield 38, 3) := by decide +kernel
theorem jd_M_minutes_95 : decode jb_M_minutes 95 = .ok (.iload_n 3, 1) := by decide +kernel
theorem jd_M_minutes_96 : decode jb_M_minutes 96 = .ok (.iaload, 1) := by decide +kernel
theorem jd_M_minutes_97 : decode jb_M_minutes 97 = .ok (.iconst 1, 1) := by decide +kernel
theorem jd_M_minutes_98 : decode jb_M_minutes 98 = .ok (.if_icmp .ne 33, 3) := by decide +kernel
theorem jd_M_minutes_101 : decode jb_M_minutes 101 = .ok (.aload_n 0, 1) := by decide +kernel
theorem jd_M_minutes_102 : decode jb_M_minutes 102 = .ok (.getfield 44, 3) := by decide +kernel
theorem jd_M_minutes_105 : decode jb_M_minutes 105 = .ok (.iload_n 3, 1) := by decide +kernel
theorem jd_M_minutes_106 : decode jb_M_minutes 106 = .ok (.iaload, 1) := by decide +kernel
theorem jd_M_minutes_107 : decode jb_M_minutes 107 = .ok (.aload_n 0, 1) := by decide +kernel
theorem jd_M_minutes_108 : decode jb_M_minutes 108 = .ok (.getfield 171, 3) := by decide +kernel
theorem jd_M_minutes_111 : decode jb_M_minutes 111 = .ok (.if_icmp .eq 6, 3) := by decide +kernel
theorem jd_M_minutes_114 : decode jb_M_minutes 114 = .ok (.goto 17, 3) := by decide +kernel
theorem jd_M_minutes_117 : decode jb_M_minutes 117 = .ok (.aload_n 0, 1) := by decide +kernel
theorem jd_M_minutes_118 : decode jb_M_minutes 118 = .ok (.getfield 38, 3) := by decide +kernel
theorem jd_M_minutes_121 : decode jb_M_minutes 121 = .ok (.iload_n 3, 1) := by decide +kernel
theorem jd_M_minutes_122 : decode jb_M_minutes 122 = .ok (.iconst 0, 1) := by decide +kernel
theorem jd_M_minutes_123 : decode jb_M_minutes 123 = .ok (.iastore, 1) := by decide +kernel
theorem jd_M_minutes_124 : decode jb_M_minutes 124 = .ok (.aload_n 0, 1) := by decide +kernel
theorem jd_M_minutes_125 : decode jb_M_minutes 125 = .ok (.getfield 44, 3) := by decide +kernel
theorem jd_M_minutes_128 : decode jb_M_minutes 128 = .ok (.iload_n 3, 1) := by decide +kernel
theorem jd_M_minutes_129 : decode jb_M_minutes 129 = .ok (.iconst (-1), 1) := by decide +kernel
theorem jd_M_minutes_130 : decode jb_M_minutes 130 = .ok (.iastore, 1) := by decide +kernel
theorem jd_M_minutes_131 : decode jb_M_minutes 131 = .ok (.iinc 3 1, 3) := by decide +kernel
theorem jd_M_minutes_134 : decode jb_M_minutes 134 = .ok (.goto (-51), 3) := by decide +kernel
theorem jd_M_minutes_137 : decode jb_M_minutes 137 = .ok (.aload_n 0, 1) := by decide +kernel
theorem jd_M_minutes_138 : decode jb_M_minutes 138 = .ok (.aload_n 0, 1) := by decide +kernel
theorem jd_M_minutes_139 : decode jb_M_minutes 139 = .ok (.getfield 171, 3) := by decide +kernel
theorem jd_M_minutes_142 : decode jb_M_minutes 142 = .ok (.invokevirtual 177, 3) := by decide +kernel
theorem jd_M_minutes_145 : decode jb_M_minutes 145 = .ok (.ifCond .eq 69, 3) := by decide +kernel
theorem jd_M_minutes_148 : decode jb_M_minutes 148 = .ok (.aload_n 0, 1) := by decide +kernel
theorem jd_M_minutes_149 : decode jb_M_minutes 149 = .ok (.aload_n 0, 1) := by decide +kernel
theorem jd_M_minutes_150 : decode jb_M_minutes 150 = .ok (.getfield 171, 3) := by decide +kernel
theorem jd_M_minutes_153 : decode jb_M_minutes 153 = .ok (.iconst 1, 1) := by decide +kernel
theorem jd_M_minutes_154 : decode jb_M_minutes 154 = .ok (.isub, 1) := by decide +kernel
theorem jd_M_minutes_155 : decode jb_M_minutes 155 = .ok (.invokevirtual 177, 3) := by decide +kernel
theorem jd_M_minutes_158 : decode jb_M_minutes 158 = .ok (.ifCond .ne 56, 3) := by decide +kernel
theorem jd_M_minutes_161 : decode jb_M_minutes 161 = .ok (.iconst 0, 1) := by decide +kernel
theorem jd_M_minutes_162 : decode jb_M_minutes 162 = .ok (.istore_n 3, 1) := by decide +kernel
theorem jd_M_minutes_163 : decode jb_M_minutes 163 = .ok (.iload_n 3, 1) := by decide +kernel
theorem jd_M_minutes_164 : decode jb_M_minutes 164 = .ok (.aload_n 0, 1) := by decide +kernel
theorem jd_M_minutes_165 : decode jb_M_minutes 165 = .ok (.getfield 180, 3) := by decide +kernel
theorem jd_M_minutes_168 : decode jb_M_minutes 168 = .ok (.if_icmp .ge 46, 3) := by decide +kernel
theorem jd_M_minutes_171 : decode jb_M_minutes 171 = .ok (.aload_n 0, 1) := by decide +kernel
theorem jd_M_minutes_172 : decode jb_M_minutes 172 = .ok (.getfield 38, 3) := by decide +kernel
theorem jd_M_minutes_175 : decode jb_M_minutes 175 = .ok (.iload_n 3, 1) := by decide +kernel
theorem jd_M_minutes_176 : decode jb_M_minutes 176 = .ok (.iaload, 1) := by decide +kernel
theorem jd_M_minutes_177 : decode jb_M_minutes 177 = .ok (.ifCond .ne 31, 3) := by decide +kernel
theorem jd_M_minutes_180 : decode jb_M_minutes 180 = .ok (.aload_n 0, 1) := by decide +kernel
theorem jd_M_minutes_181 : decode jb_M_minutes 181 = .ok (.getfield 47, 3) := by decide +kernel
theorem jd_M_minutes_184 : decode jb_M_minutes 184 = .ok (.iload_n 3, 1) := by decide +kernel
theorem jd_M_minutes_185 : decode jb_M_minutes 185 = .ok (.iaload, 1) := by decide +kernel
theorem jd_M_minutes_186 : decode jb_M_minutes 186 = .ok (.ifCond .ge 22, 3) := by decide +kernel
theorem jd_M_minutes_189 : decode jb_M_minutes 189 = .ok (.aload_n 0, 1) := by decide +kernel
theorem jd_M_minutes_190 : decode jb_M_minutes 190 = .ok (.getfield 13, 3) := by decide +kernel
theorem jd_M_minutes_193 : decode jb_M_minutes 193 = .ok (.aload_n 0, 1) := by decide +kernel
theorem jd_M_minutes_194 : decode jb_M_minutes 194 = .ok (.getfield 41, 3) := by decide +kernel
theorem jd_M_minutes_197 : decode jb_M_minutes 197 = .ok (.iload_n 3, 1) := by decide +kernel
theorem jd_M_minutes_198 : decode jb_M_minutes 198 = .ok (.iaload, 1) := by decide +kernel
theorem jd_M_minutes_199 : decode jb_M_minutes 199 = .ok (.baload, 1) := by decide +kernel
theorem jd_M_minutes_200 : decode jb_M_minutes 200 = .ok (.ifCond .ne 8, 3) := by decide +kernel
theorem jd_M_minutes_203 : decode jb_M_minutes 203 = .ok (.aload_n 0, 1) := by decide +kernel
theorem jd_M_minutes_204 : decode jb_M_minutes 204 = .ok (.iload_n 3, 1) := by decide +kernel
theorem jd_M_minutes_205 : decode jb_M_minutes 205 = .ok (.invokevirtual 223, 3) := by decide +kernel
theorem jd_M_minutes_208 : decode jb_M_minutes 208 = .ok (.iinc 3 1, 3) := by decide +kernel
theorem jd_M_minutes_211 : decode jb_M_minutes 211 = .ok (.goto (-48), 3) := by decide +kernel
theorem jd_M_minutes_214 : decode jb_M_minutes 214 = .ok (.aload_n 0, 1) := by decide +kernel
theorem jd_M_minutes_215 : decode jb_M_minutes 215 = .ok (.invokevirtual 226, 3) := by decide +kernel
theorem jd_M_minutes_218 : decode jb_M_minutes 218 = .ok (.iconst 0, 1) := by decide +kernel
theorem jd_M_minutes_219 : decode jb_M_minutes 219 = .ok (.istore_n 3, 1) := by decide +kernel
theorem jd_M_minutes_220 : decode jb_M_minutes 220 = .ok (.iload_n 3, 1) := by decide +kernel
theorem jd_M_minutes_221 : decode jb_M_minutes 221 = .ok (.aload_n 0, 1) := by decide +kernel
theorem jd_M_minutes_222 : decode jb_M_minutes 222 = .ok (.getfield 155, 3) := by decide +kernel
theorem jd_M_minutes_225 : decode jb_M_minutes 225 = .ok (.if_icmp .ge 48, 3) := by decide +kernel
theorem jd_M_minutes_228 : decode jb_M_minutes 228 = .ok (.aload_n 0, 1) := by decide +kernel
theorem jd_M_minutes_229 : decode jb_M_minutes 229 = .ok (.dup, 1) := by decide +kernel
theorem jd_M_minutes_230 : decode jb_M_minutes 230 = .ok (.getfield 229, 3) := by decide +kernel
theorem jd_M_minutes_233 : decode jb_M_minutes 233 = .ok (.aload_n 0, 1) := by decide +kernel
theorem jd_M_minutes_234 : decode jb_M_minutes 234 = .ok (.iload_n 3, 1) := by decide +kernel
theorem jd_M_minutes_235 : decode jb_M_minutes 235 = .ok (.invokevirtual 216, 3) := by decide +kernel
theorem jd_M_minutes_238 : decode jb_M_minutes 238 = .ok (.aload_n 0, 1) := by decide +kernel
theorem jd_M_minutes_239 : decode jb_M_minutes 239 = .ok (.getfield 7, 3) := by decide +kernel
theorem jd_M_minutes_242 : decode jb_M_minutes 242 = .ok (.iload_n 3, 1) := by decide +kernel
theorem jd_M_minutes_243 : decode jb_M_minutes 243 = .ok (.iaload, 1) := by decide +kernel
theorem jd_M_minutes_244 : decode jb_M_minutes 244 = .ok (.if_icmp .le 18, 3) := by decide +kernel
theorem jd_M_minutes_247 : decode jb_M_minutes 247 = .ok (.aload_n 0, 1) := by decide +kernel
theorem jd_M_minutes_248 : decode jb_M_minutes 248 = .ok (.iload_n 3, 1) := by decide +kernel
theorem jd_M_minutes_249 : decode jb_M_minutes 249 = .ok (.invokevirtual 216, 3) := by decide +kernel
theorem jd_M_minutes_252 : decode jb_M_minutes 252 = .ok (.aload_n 0, 1) := by decide +kernel
theorem jd_M_minutes_253 : decode jb_M_minutes 253 = .ok (.getfield 7, 3) := by decide +kernel
theorem jd_M_minutes_256 : decode jb_M_minutes 256 = .ok (.iload_n 3, 1) := by decide +kernel
theorem jd_M_minutes_257 : decode jb_M_minutes 257 = .ok (.iaload, 1) := by decide +kernel
theorem jd_M_minutes_258 : decode jb_M_minutes 258 = .ok (.isub, 1) := by decide +kernel
theorem jd_M_minutes_259 : decode jb_M_minutes 259 = .ok (.goto 4, 3) := by decide +kernel
theorem jd_M_minutes_262 : decode jb_M_minutes 262 = .ok (.iconst 0, 1) := by decide +kernel
theorem jd_M_minutes_263 : decode jb_M_minutes 263 = .ok (.iadd, 1) := by decide +kernel
theorem jd_M_minutes_264 : decode jb_M_minutes 264 = .ok (.putfield 229, 3) := by decide +kernel
theorem jd_M_minutes_267 : decode jb_M_minutes 267 = .ok (.iinc 3 1, 3) := by decide +kernel
theorem jd_M_minutes_270 : decode jb_M_minutes 270 = .ok (.goto (-50), 3) := by decide +kernel
theorem jd_M_minutes_273 : decode jb_M_minutes 273 = .ok (.aload_n 0, 1) := by decide +kernel
theorem jd_M_minutes_274 : decode jb_M_minutes 274 = .ok (.invokevirtual 220, 3) := by decide +kernel
theorem jd_M_minutes_277 : decode jb_M_minutes 277 = .ok (.iinc 2 1, 3) := by decide +kernel
theorem jd_M_minutes_280 : decode jb_M_minutes 280 = .ok (.goto (-254), 3) := by decide +kernel
theorem jd_M_minutes_283 : decode jb_M_minutes 283 = .ok (.aload_n 0, 1) := by decide +kernel
theorem jd_M_minutes_284 : decode jb_M_minutes 284 = .ok (.getfield 171, 3) := by decide +kernel
theorem jd_M_minutes_287 : decode jb_M_minutes 287 = .ok (.ireturn, 1) := by decide +kernel
def f_M_minutes_263 (F : Nat) (kb220 : Int32 → Int32 → Int32 → j_M → Option (Int32 × j_M)) (x1 : Int32) (x2 : Int32) (x3 : Int32) (s1 : Int32) (s2 : Int32) (I : j_M) : Option (Int32 × j_M) := j_let (j_wr I 215 25 (s1 + s2)) (fun I1 => j_let (x3 + 1) (fun v2 => kb220 x1 x2 v2 I1))
def f_M_minutes_220b (F : Nat) (kb220 : Int32 → Int32 → Int32 → j_M → Option (Int32 × j_M)) (kb26 : Int32 → Int32 → j_M → Option (Int32 × j_M)) (x1 : Int32) (x2 : Int32) (x3 : Int32) (I : j_M) : Option (Int32 × j_M) := (if (I 215 3) ≤ x3 then j_bd (f_M_keep F I) (fun v3 I4 => j_let (x2 + 1) (fun v5 => kb26 x1 v5 I4)) else j_bd (f_M_headsAt F x3 I) (fun v6 I7 => (if j_ok x3 16 = true then (if v6 ≤ (I7 216 (j_ix x3)) then f_M_minutes_263 F kb220 x1 x2 x3 (I 215 25) 0 I7 else j_bd (f_M_headsAt F x3 I7) (fun v8 I9 => (if j_ok x3 16 = true then f_M_minutes_263 F kb220 x1 x2 x3 (I 215 25) (v8 - (I9 216 (j_ix x3))) I9 else none))) else none)))
def f_M_minutes_220 (F : Nat) (kb26 : Int32 → Int32 → j_M → Option (Int32 × j_M)) (x1 : Int32) (x2 : Int32) (x3 : Int32) (I : j_M) : Option (Int32 × j_M) := j_it (fun (again : Int32 × Int32 × Int32 × j_M → Option (Int32 × j_M)) (q : Int32 × Int32 × Int32 × j_M) => f_M_minutes_220b F  (fun x1 x2 x3 I => again (x1, x2, x3, I)) kb26 q.1 q.2.1 q.2.2.1 q.2.2.2) F (x1, x2, x3, I)
def f_M_minutes_214 (F : Nat) (kb26 : Int32 → Int32 → j_M → Option (Int32 × j_M)) (x1 : Int32) (x2 : Int32) (I : j_M) : Option (Int32 × j_M) := j_bd (f_M_serve F I) (fun v10 I11 => f_M_minutes_220 F kb26 x1 x2 0 I11)
def f_M_minutes_208 (F : Nat) (kb163 : Int32 → Int32 → Int32 → j_M → Option (Int32 × j_M)) (x1 : Int32) (x2 : Int32) (x3 : Int32) (I : j_M) : Option (Int32 × j_M) := j_let (x3 + 1) (fun v12 => kb163 x1 x2 v12 I)
def f_M_minutes_163b (F : Nat) (kb163 : Int32 → Int32 → Int32 → j_M → Option (Int32 × j_M)) (kb26 : Int32 → Int32 → j_M → Option (Int32 × j_M)) (x1 : Int32) (x2 : Int32) (x3 : Int32) (I : j_M) : Option (Int32 × j_M) := (if (I 215 12) ≤ x3 then f_M_minutes_214 F kb26 x1 x2 I else (if j_ok x3 100 = true then (if (I 225 (j_ix x3)) = 0 then (if j_ok x3 100 = true then (if 0 ≤ (I 228 (j_ix x3)) then f_M_minutes_208 F kb163 x1 x2 x3 I else (if j_ok x3 100 = true then (if j_ok (I 226 (j_ix x3)) 16 = true then (if (I 217 (j_ix (I 226 (j_ix x3)))) = 0 then j_bd (f_M_flee F x3 I) (fun v13 I14 => f_M_minutes_208 F kb163 x1 x2 x3 I14) else f_M_minutes_208 F kb163 x1 x2 x3 I) else none) else none)) else none) else f_M_minutes_208 F kb163 x1 x2 x3 I) else none))
def f_M_minutes_163 (F : Nat) (kb26 : Int32 → Int32 → j_M → Option (Int32 × j_M)) (x1 : Int32) (x2 : Int32) (x3 : Int32) (I : j_M) : Option (Int32 × j_M) := j_it (fun (again : Int32 × Int32 × Int32 × j_M → Option (Int32 × j_M)) (q : Int32 × Int32 × Int32 × j_M) => f_M_minutes_163b F  (fun x1 x2 x3 I => again (x1, x2, x3, I)) kb26 q.1 q.2.1 q.2.2.1 q.2.2.2) F (x1, x2, x3, I)
def f_M_minutes_131 (F : Nat) (kb83 : Int32 → Int32 → Int32 → j_M → Option (Int32 × j_M)) (x1 : Int32) (x2 : Int32) (x3 : Int32) (I : j_M) : Option (Int32 × j_M) := j_let (x3 + 1) (fun v15 => kb83 x1 x2 v15 I)
def f_M_minutes_83b (F : Nat) (kb83 : Int32 → Int32 → Int32 → j_M → Option (Int32 × j_M)) (kb26 : Int32 → Int32 → j_M → Option (Int32 × j_M)) (x1 : Int32) (x2 : Int32) (x3 : Int32) (I : j_M) : Option (Int32 × j_M) := (if (I 215 12) ≤ x3 then j_bd (f_M_rainsIn F (I 215 2) I) (fun v16 I17 => (if v16 = 0 then f_M_minutes_214 F kb26 x1 x2 I17 else j_bd (f_M_rainsIn F ((I17 215 2) - 1) I17) (fun v18 I19 => (if v18 = 0 then f_M_minutes_163 F kb26 x1 x2 0 I19 else f_M_minutes_214 F kb26 x1 x2 I19)))) else (if j_ok x3 100 = true then (if (I 225 (j_ix x3)) = 1 then (if j_ok x3 100 = true then (if (I 227 (j_ix x3)) = (I 215 2) then (if j_ok x3 100 = true then j_let (j_wr I 225 (j_ix x3) 0) (fun I20 => (if j_ok x3 100 = true then j_let (j_wr I20 227 (j_ix x3) (-1)) (fun I21 => f_M_minutes_131 F kb83 x1 x2 x3 I21) else none)) else none) else f_M_minutes_131 F kb83 x1 x2 x3 I) else none) else f_M_minutes_131 F kb83 x1 x2 x3 I) else none))
def f_M_minutes_83 (F : Nat) (kb26 : Int32 → Int32 → j_M → Option (Int32 × j_M)) (x1 : Int32) (x2 : Int32) (x3 : Int32) (I : j_M) : Option (Int32 × j_M) := j_it (fun (again : Int32 × Int32 × Int32 × j_M → Option (Int32 × j_M)) (q : Int32 × Int32 × Int32 × j_M) => f_M_minutes_83b F  (fun x1 x2 x3 I => again (x1, x2, x3, I)) kb26 q.1 q.2.1 q.2.2.1 q.2.2.2) F (x1, x2, x3, I)
def f_M_minutes_54b (F : Nat) (kb54 : Int32 → Int32 → Int32 → j_M → Option (Int32 × j_M)) (kb26 : Int32 → Int32 → j_M → Option (Int32 × j_M)) (x1 : Int32) (x2 : Int32) (x3 : Int32) (I : j_M) : Option (Int32 × j_M) := (if 100 ≤ x3 then f_M_minutes_83 F kb26 x1 x2 0 I else (if j_ok ((100 * (I 215 2)) + x3) 48000 = true then j_let (j_wr I 233 (j_ix ((100 * (I 215 2)) + x3)) (0 : Int32).toInt8.toInt32) (fun I22 => j_let (x3 + 1) (fun v23 => kb54 x1 x2 v23 I22)) else none))
def f_M_minutes_54 (F : Nat) (kb26 : Int32 → Int32 → j_M → Option (Int32 × j_M)) (x1 : Int32) (x2 : Int32) (x3 : Int32) (I : j_M) : Option (Int32 × j_M) := j_it (fun (again : Int32 × Int32 × Int32 × j_M → Option (Int32 × j_M)) (q : Int32 × Int32 × Int32 × j_M) => f_M_minutes_54b F  (fun x1 x2 x3 I => again (x1, x2, x3, I)) kb26 q.1 q.2.1 q.2.2.1 q.2.2.2) F (x1, x2, x3, I)
def f_M_minutes_42 (F : Nat) (kb26 : Int32 → Int32 → j_M → Option (Int32 × j_M)) (x1 : Int32) (x2 : Int32) (I : j_M) : Option (Int32 × j_M) := j_let (j_wr I 215 2 ((I 215 2) + 1)) (fun I24 => f_M_minutes_54 F kb26 x1 x2 0 I24)
def f_M_minutes_26b (F : Nat) (kb26 : Int32 → Int32 → j_M → Option (Int32 × j_M)) (x1 : Int32) (x2 : Int32) (I : j_M) : Option (Int32 × j_M) := (if x1 ≤ x2 then some (I 215 2, I) else (if (I 215 2) = 0 then j_bd (f_M_keep F I) (fun v25 I26 => f_M_minutes_42 F kb26 x1 x2 I26) else f_M_minutes_42 F kb26 x1 x2 I))
def f_M_minutes_26 (F : Nat)  (x1 : Int32) (x2 : Int32) (I : j_M) : Option (Int32 × j_M) := j_it (fun (again : Int32 × Int32 × j_M → Option (Int32 × j_M)) (q : Int32 × Int32 × j_M) => f_M_minutes_26b F  (fun x1 x2 I => again (x1, x2, I))  q.1 q.2.1 q.2.2) F (x1, x2, I)
def f_M_minutes (F : Nat) (x1 : Int32) (I : j_M) : Option (Int32 × j_M) := j_bd (f_M_among F x1 1 60 I) (fun v27 I28 => (if v27 = 0 then some ((-1), I28) else (if ((I28 215 2) + x1) ≤ 479 then f_M_minutes_26 F x1 0 I28 else some ((-1), I28))))
set_option maxRecDepth 100000 in
set_option maxHeartbeats 4000000 in
theorem k_M_minutes_263 {p : Program} {l : Launch} {e : Env} {R : Room} {s : State} {m : MethodId} {args : Array Value} {below : List Frame} {meth : Method} {c : Code} {g : j_G} {b n : Nat} {P : j_R} {F : Nat} (hF : j_Fx 0 260 P) (hn : 260 ≤ n) (X : j_X p R s m args meth c g b 5 jb_M_minutes 4 "PleasureGardenModel" (some .int)) {kb220 : Int32 → Int32 → Int32 → j_M → Option (Int32 × j_M)} (hkb220 : ∀ (x1 : Int32) (x2 : Int32) (x3 : Int32) (I : j_M) (r : Int32 × j_M), kb220 x1 x2 x3 I = some r → j_W p l e R s m args below meth c 4 g b n 0 0 (j_Qi g b n P below args s r) I P 220 [some (.ref (b + 215)), some (.int x1), some (.int x2), some (.int x3)] []) {x1 : Int32} {x2 : Int32} {x3 : Int32} {s1 : Int32} {s2 : Int32} {I : j_M} {r : Int32 × j_M}  (h : f_M_minutes_263 F kb220 x1 x2 x3 s1 s2 I = some r) : j_W p l e R s m args below meth c 4 g b n 0 0 (j_Qi g b n P below args s r) I P 263 [some (.ref (b + 215)), some (.int x1), some (.int x2), some (.int x3)] [.int s2, .int s1, .ref (b + 215)] := by
  unfold f_M_minutes_263 at h
  refine j_iadd X jd_M_minutes_263 ?_
  refine j_puti X jt_M jto_M jn_M jf_M_229 jk_12_25 js_215 (j_lt rfl hn) (Or.inl rfl) rfl jd_M_minutes_264 ?_
  refine j_mem h (fun I1 h => ?_)
  obtain ⟨v2, ev2, h⟩ := j_ex h
  refine j_iinc (v := v2) (lv' := [some (.ref (b + 215)), some (.int x1), some (.int x2), some (.int v2)]) X jd_M_minutes_267 rfl (by rw [ev2]; rfl) (by decide) rfl ?_
  refine j_goto (tgt := 220) X jd_M_minutes_270 rfl ?_
  exact hkb220 _ _ _ _ _ h
set_option maxRecDepth 100000 in
set_option maxHeartbeats 4000000 in
theorem k_M_minutes_220b {p : Program} {l : Launch} {e : Env} {R : Room} {s : State} {m : MethodId} {args : Array Value} {below : List Frame} {meth : Method} {c : Code} {g : j_G} {b n : Nat} {P : j_R} {F : Nat} (hF : j_Fx 0 260 P) (hn : 260 ≤ n) (X : j_X p R s m args meth c g b 5 jb_M_minutes 4 "PleasureGardenModel" (some .int)) {kb220 : Int32 → Int32 → Int32 → j_M → Option (Int32 × j_M)} (hkb220 : ∀ (x1 : Int32) (x2 : Int32) (x3 : Int32) (I : j_M) (r : Int32 × j_M), kb220 x1 x2 x3 I = some r → j_W p l e R s m args below meth c 4 g b n 0 0 (j_Qi g b n P below args s r) I P 220 [some (.ref (b + 215)), some (.int x1), some (.int x2), some (.int x3)] []) {kb26 : Int32 → Int32 → j_M → Option (Int32 × j_M)} (hkb26 : ∀ (x1 : Int32) (x2 : Int32) (I : j_M) (r : Int32 × j_M), kb26 x1 x2 I = some r → j_W p l e R s m args below meth c 4 g b n 0 0 (j_Qi g b n P below args s r) I P 26 [some (.ref (b + 215)), some (.int x1), some (.int x2), none] []) {x1 : Int32} {x2 : Int32} {x3 : Int32} {I : j_M} {r : Int32 × j_M}  (h : f_M_minutes_220b F kb220 kb26 x1 x2 x3 I = some r) : j_W p l e R s m args below meth c 4 g b n 0 0 (j_Qi g b n P below args s r) I P 220 [some (.ref (b + 215)), some (.int x1), some (.int x2), some (.int x3)] [] := by
  unfold f_M_minutes_220b at h
  refine j_iload_n X jd_M_minutes_220 rfl rfl ?_
  refine j_aload_n X jd_M_minutes_221 rfl rfl ?_
  refine j_get X jf_M_155 jk_12_3 js_215 (j_lt rfl hn) jd_M_minutes_222 ?_
  refine j_icmp_ge (tgt := 273) X jd_M_minutes_225 rfl h (fun h => ?_) (fun h => ?_)
  · refine j_aload_n X jd_M_minutes_273 rfl rfl ?_
    refine j_callVv (As := []) (st := []) (c0 := 215) X h jc_M js_215 (j_lt rfl hn) ⟨jqc_M_keep, jqi_M_keep, jqv_M_keep, jqn_M⟩ jlm_M_220 jh_M_keep rfl (by decide) (by decide) (Nat.le_of_ble_eq_true rfl) ⟨Nat.zero_le _, Nat.zero_le _⟩ (fun v0 I0 h => k_M_keep (r := (v0, I0)) hF hn h) jd_M_minutes_274 rfl (fun v3 I4 h => ?_)
    obtain ⟨v5, ev5, h⟩ := j_ex h
    refine j_iinc (v := v5) (lv' := [some (.ref (b + 215)), some (.int x1), some (.int v5), some (.int x3)]) X jd_M_minutes_277 rfl (by rw [ev5]; rfl) (by decide) rfl ?_
    refine j_goto (tgt := 26) X jd_M_minutes_280 rfl ?_
    refine j_sub [true, true, true, false] (lv' := [some (.ref (b + 215)), some (.int x1), some (.int v5), none]) rfl ?_
    exact hkb26 _ _ _ _ h
  · refine j_aload_n X jd_M_minutes_228 rfl rfl ?_
    refine j_dup X jd_M_minutes_229 rfl ?_
    refine j_get X jf_M_229 jk_12_25 js_215 (j_lt rfl hn) jd_M_minutes_230 ?_
    refine j_aload_n X jd_M_minutes_233 rfl rfl ?_
    refine j_iload_n X jd_M_minutes_234 rfl rfl ?_
    refine j_callVi (As := [.int x3]) (st := [.int (I 215 25), .ref (b + 215)]) (c0 := 215) X h jc_M js_215 (j_lt rfl hn) ⟨jqc_M_headsAt, jqi_M_headsAt, jqv_M_headsAt, jqn_M⟩ jlm_M_216 jh_M_headsAt rfl (by decide) (by decide) (Nat.le_of_ble_eq_true rfl) ⟨Nat.zero_le _, Nat.zero_le _⟩ (fun v0 I0 h => k_M_headsAt (r := (v0, I0)) hF hn h) jd_M_minutes_235 rfl (fun v6 I7 h => ?_)
    refine j_aload_n X jd_M_minutes_238 rfl rfl ?_
    refine j_getr X jf_M_7 jk_12_4 js_215 (j_lt rfl hn) (jp_215_4 hF) jd_M_minutes_239 ?_
    refine j_iload_n X jd_M_minutes_242 rfl rfl ?_
    refine j_iald X js_216 (j_lt rfl hn) jd_M_minutes_243 h (fun _ h => ?_)
    refine j_icmp_le (tgt := 262) X jd_M_minutes_244 rfl h (fun h => ?_) (fun h => ?_)
    · refine j_iconst (v := 0) X jd_M_minutes_262 (by decide) ?_
      exact k_M_minutes_263 hF hn X hkb220 h
    · refine j_aload_n X jd_M_minutes_247 rfl rfl ?_
      refine j_iload_n X jd_M_minutes_248 rfl rfl ?_
      refine j_callVi (As := [.int x3]) (st := [.int (I 215 25), .ref (b + 215)]) (c0 := 215) X h jc_M js_215 (j_lt rfl hn) ⟨jqc_M_headsAt, jqi_M_headsAt, jqv_M_headsAt, jqn_M⟩ jlm_M_216 jh_M_headsAt rfl (by decide) (by decide) (Nat.le_of_ble_eq_true rfl) ⟨Nat.zero_le _, Nat.zero_le _⟩ (fun v0 I0 h => k_M_headsAt (r := (v0, I0)) hF hn h) jd_M_minutes_249 rfl (fun v8 I9 h => ?_)
      refine j_aload_n X jd_M_minutes_252 rfl rfl ?_
      refine j_getr X jf_M_7 jk_12_4 js_215 (j_lt rfl hn) (jp_215_4 hF) jd_M_minutes_253 ?_
      refine j_iload_n X jd_M_minutes_256 rfl rfl ?_
      refine j_iald X js_216 (j_lt rfl hn) jd_M_minutes_257 h (fun _ h => ?_)
      refine j_isub X jd_M_minutes_258 ?_
      refine j_goto (tgt := 263) X jd_M_minutes_259 rfl ?_
      exact k_M_minutes_263 hF hn X hkb220 h
set_option maxRecDepth 100000 in
set_option maxHeartbeats 4000000 in
theorem k_M_minutes_220 {p : Program} {l : Launch} {e : Env} {R : Room} {s : State} {m : MethodId} {args : Array Value} {below : List Frame} {meth : Method} {c : Code} {g : j_G} {b n : Nat} {P : j_R} {F : Nat} (hF : j_Fx 0 260 P) (hn : 260 ≤ n) (X : j_X p R s m args meth c g b 5 jb_M_minutes 4 "PleasureGardenModel" (some .int)) {kb26 : Int32 → Int32 → j_M → Option (Int32 × j_M)} (hkb26 : ∀ (x1 : Int32) (x2 : Int32) (I : j_M) (r : Int32 × j_M), kb26 x1 x2 I = some r → j_W p l e R s m args below meth c 4 g b n 0 0 (j_Qi g b n P below args s r) I P 26 [some (.ref (b + 215)), some (.int x1), some (.int x2), none] []) {x1 : Int32} {x2 : Int32} {x3 : Int32} {I : j_M} {r : Int32 × j_M} (h : f_M_minutes_220 F kb26 x1 x2 x3 I = some r) : j_W p l e R s m args below meth c 4 g b n 0 0 (j_Qi g b n P below args s r) I P 220 [some (.ref (b + 215)), some (.int x1), some (.int x2), some (.int x3)] [] := by
  refine j_loop (G := fun (q : Int32 × Int32 × Int32 × j_M) (r : Int32 × j_M) => j_W p l e R s m args below meth c 4 g b n 0 0 (j_Qi g b n P below args s r) q.2.2.2 P 220 [some (.ref (b + 215)), some (.int (q.1)), some (.int (q.2.1)), some (.int (q.2.2.1))] []) ?_ F (x1, x2, x3, I) r h
  intro again hrec0 q r h
  exact k_M_minutes_220b hF hn X (fun x1 x2 x3 I r h => hrec0 (x1, x2, x3, I) r h) hkb26 h
set_option maxRecDepth 100000 in
set_option maxHeartbeats 4000000 in
theorem k_M_minutes_214 {p : Program} {l : Launch} {e : Env} {R : Room} {s : State} {m : MethodId} {args : Array Value} {below : List Frame} {meth : Method} {c : Code} {g : j_G} {b n : Nat} {P : j_R} {F : Nat} (hF : j_Fx 0 260 P) (hn : 260 ≤ n) (X : j_X p R s m args meth c g b 5 jb_M_minutes 4 "PleasureGardenModel" (some .int)) {kb26 : Int32 → Int32 → j_M → Option (Int32 × j_M)} (hkb26 : ∀ (x1 : Int32) (x2 : Int32) (I : j_M) (r : Int32 × j_M), kb26 x1 x2 I = some r → j_W p l e R s m args below meth c 4 g b n 0 0 (j_Qi g b n P below args s r) I P 26 [some (.ref (b + 215)), some (.int x1), some (.int x2), none] []) {x1 : Int32} {x2 : Int32} {I : j_M} {r : Int32 × j_M}  (h : f_M_minutes_214 F kb26 x1 x2 I = some r) : j_W p l e R s m args below meth c 4 g b n 0 0 (j_Qi g b n P below args s r) I P 214 [some (.ref (b + 215)), some (.int x1), some (.int x2), none] [] := by
  unfold f_M_minutes_214 at h
  refine j_aload_n X jd_M_minutes_214 rfl rfl ?_
  refine j_callVv (As := []) (st := []) (c0 := 215) X h jc_M js_215 (j_lt rfl hn) ⟨jqc_M_serve, jqi_M_serve, jqv_M_serve, jqn_M⟩ jlm_M_226 jh_M_serve rfl (by decide) (by decide) (Nat.le_of_ble_eq_true rfl) ⟨Nat.zero_le _, Nat.zero_le _⟩ (fun v0 I0 h => k_M_serve (r := (v0, I0)) hF hn h) jd_M_minutes_215 rfl (fun v10 I11 h => ?_)
  refine j_iconst (v := 0) X jd_M_minutes_218 (by decide) ?_
  refine j_istore_n (lv' := [some (.ref (b + 215)), some (.int x1), some (.int x2), some (.int 0)]) X jd_M_minutes_219 rfl (by decide) rfl ?_
  exact k_M_minutes_220 hF hn X hkb26 h
set_option maxRecDepth 100000 in
set_option maxHeartbeats 4000000 in
theorem k_M_minutes_208 {p : Program} {l : Launch} {e : Env} {R : Room} {s : State} {m : MethodId} {args : Array Value} {below : List Frame} {meth : Method} {c : Code} {g : j_G} {b n : Nat} {P : j_R} {F : Nat} (hF : j_Fx 0 260 P) (hn : 260 ≤ n) (X : j_X p R s m args meth c g b 5 jb_M_minutes 4 "PleasureGardenModel" (some .int)) {kb163 : Int32 → Int32 → Int32 → j_M → Option (Int32 × j_M)} (hkb163 : ∀ (x1 : Int32) (x2 : Int32) (x3 : Int32) (I : j_M) (r : Int32 × j_M), kb163 x1 x2 x3 I = some r → j_W p l e R s m args below meth c 4 g b n 0 0 (j_Qi g b n P below args s r) I P 163 [some (.ref (b + 215)), some (.int x1), some (.int x2), some (.int x3)] []) {x1 : Int32} {x2 : Int32} {x3 : Int32} {I : j_M} {r : Int32 × j_M}  (h : f_M_minutes_208 F kb163 x1 x2 x3 I = some r) : j_W p l e R s m args below meth c 4 g b n 0 0 (j_Qi g b n P below args s r) I P 208 [some (.ref (b + 215)), some (.int x1), some (.int x2), some (.int x3)] [] := by
  unfold f_M_minutes_208 at h
  obtain ⟨v12, ev12, h⟩ := j_ex h
  refine j_iinc (v := v12) (lv' := [some (.ref (b + 215)), some (.int x1), some (.int x2), some (.int v12)]) X jd_M_minutes_208 rfl (by rw [ev12]; rfl) (by decide) rfl ?_
  refine j_goto (tgt := 163) X jd_M_minutes_211 rfl ?_
  exact hkb163 _ _ _ _ _ h
set_option maxRecDepth 100000 in
set_option maxHeartbeats 4000000 in
theorem k_M_minutes_163b {p : Program} {l : Launch} {e : Env} {R : Room} {s : State} {m : MethodId} {args : Array Value} {below : List Frame} {meth : Method} {c : Code} {g : j_G} {b n : Nat} {P : j_R} {F : Nat} (hF : j_Fx 0 260 P) (hn : 260 ≤ n) (X : j_X p R s m args meth c g b 5 jb_M_minutes 4 "PleasureGardenModel" (some .int)) {kb163 : Int32 → Int32 → Int32 → j_M → Option (Int32 × j_M)} (hkb163 : ∀ (x1 : Int32) (x2 : Int32) (x3 : Int32) (I : j_M) (r : Int32 × j_M), kb163 x1 x2 x3 I = some r → j_W p l e R s m args below meth c 4 g b n 0 0 (j_Qi g b n P below args s r) I P 163 [some (.ref (b + 215)), some (.int x1), some (.int x2), some (.int x3)] []) {kb26 : Int32 → Int32 → j_M → Option (Int32 × j_M)} (hkb26 : ∀ (x1 : Int32) (x2 : Int32) (I : j_M) (r : Int32 × j_M), kb26 x1 x2 I = some r → j_W p l e R s m args below meth c 4 g b n 0 0 (j_Qi g b n P below args s r) I P 26 [some (.ref (b + 215)), some (.int x1), some (.int x2), none] []) {x1 : Int32} {x2 : Int32} {x3 : Int32} {I : j_M} {r : Int32 × j_M}  (h : f_M_minutes_163b F kb163 kb26 x1 x2 x3 I = some r) : j_W p l e R s m args below meth c 4 g b n 0 0 (j_Qi g b n P below args s r) I P 163 [some (.ref (b + 215)), some (.int x1), some (.int x2), some (.int x3)] [] := by
  unfold f_M_minutes_163b at h
  refine j_iload_n X jd_M_minutes_163 rfl rfl ?_
  refine j_aload_n X jd_M_minutes_164 rfl rfl ?_
  refine j_get X jf_M_180 jk_12_12 js_215 (j_lt rfl hn) jd_M_minutes_165 ?_
  refine j_icmp_ge (tgt := 214) X jd_M_minutes_168 rfl h (fun h => ?_) (fun h => ?_)
  · refine j_sub [true, true, true, false] (lv' := [some (.ref (b + 215)), some (.int x1), some (.int x2), none]) rfl ?_
    exact k_M_minutes_214 hF hn X hkb26 h
  · refine j_aload_n X jd_M_minutes_171 rfl rfl ?_
    refine j_getr X jf_M_38 jk_12_15 js_215 (j_lt rfl hn) (jp_215_15 hF) jd_M_minutes_172 ?_
    refine j_iload_n X jd_M_minutes_175 rfl rfl ?_
    refine j_iald X js_225 (j_lt rfl hn) jd_M_minutes_176 h (fun _ h => ?_)
    refine j_if_ne (tgt := 208) X jd_M_minutes_177 rfl h (fun h => ?_) (fun h => ?_)
    · refine j_aload_n X jd_M_minutes_180 rfl rfl ?_
      refine j_getr X jf_M_47 jk_12_18 js_215 (j_lt rfl hn) (jp_215_18 hF) jd_M_minutes_181 ?_
      refine j_iload_n X jd_M_minutes_184 rfl rfl ?_
      refine j_iald X js_228 (j_lt rfl hn) jd_M_minutes_185 h (fun _ h => ?_)
      refine j_if_ge (tgt := 208) X jd_M_minutes_186 rfl h (fun h => ?_) (fun h => ?_)
      · exact k_M_minutes_208 hF hn X hkb163 h
      · refine j_aload_n X jd_M_minutes_189 rfl rfl ?_
        refine j_getr X jf_M_13 jk_12_5 js_215 (j_lt rfl hn) (jp_215_5 hF) jd_M_minutes_190 ?_
        refine j_aload_n X jd_M_minutes_193 rfl rfl ?_
        refine j_getr X jf_M_41 jk_12_16 js_215 (j_lt rfl hn) (jp_215_16 hF) jd_M_minutes_194 ?_
        refine j_iload_n X jd_M_minutes_197 rfl rfl ?_
        refine j_iald X js_226 (j_lt rfl hn) jd_M_minutes_198 h (fun _ h => ?_)
        refine j_zald X js_217 (j_lt rfl hn) jd_M_minutes_199 h (fun _ h => ?_)
        refine j_if_ne (tgt := 208) X jd_M_minutes_200 rfl h (fun h => ?_) (fun h => ?_)
        · refine j_aload_n X jd_M_minutes_203 rfl rfl ?_
          refine j_iload_n X jd_M_minutes_204 rfl rfl ?_
          refine j_callVv (As := [.int x3]) (st := []) (c0 := 215) X h jc_M js_215 (j_lt rfl hn) ⟨jqc_M_flee, jqi_M_flee, jqv_M_flee, jqn_M⟩ jlm_M_223 jh_M_flee rfl (by decide) (by decide) (Nat.le_of_ble_eq_true rfl) ⟨Nat.zero_le _, Nat.zero_le _⟩ (fun v0 I0 h => k_M_flee (r := (v0, I0)) hF hn h) jd_M_minutes_205 rfl (fun v13 I14 h => ?_)
          exact k_M_minutes_208 hF hn X hkb163 h
        · exact k_M_minutes_208 hF hn X hkb163 h
    · exact k_M_minutes_208 hF hn X hkb163 h
set_option maxRecDepth 100000 in
set_option maxHeartbeats 4000000 in
theorem k_M_minutes_163 {p : Program} {l : Launch} {e : Env} {R : Room} {s : State} {m : MethodId} {args : Array Value} {below : List Frame} {meth : Method} {c : Code} {g : j_G} {b n : Nat} {P : j_R} {F : Nat} (hF : j_Fx 0 260 P) (hn : 260 ≤ n) (X : j_X p R s m args meth c g b 5 jb_M_minutes 4 "PleasureGardenModel" (some .int)) {kb26 : Int32 → Int32 → j_M → Option (Int32 × j_M)} (hkb26 : ∀ (x1 : Int32) (x2 : Int32) (I : j_M) (r : Int32 × j_M), kb26 x1 x2 I = some r → j_W p l e R s m args below meth c 4 g b n 0 0 (j_Qi g b n P below args s r) I P 26 [some (.ref (b + 215)), some (.int x1), some (.int x2), none] []) {x1 : Int32} {x2 : Int32} {x3 : Int32} {I : j_M} {r : Int32 × j_M} (h : f_M_minutes_163 F kb26 x1 x2 x3 I = some r) : j_W p l e R s m args below meth c 4 g b n 0 0 (j_Qi g b n P below args s r) I P 163 [some (.ref (b + 215)), some (.int x1), some (.int x2), some (.int x3)] [] := by
  refine j_loop (G := fun (q : Int32 × Int32 × Int32 × j_M) (r : Int32 × j_M) => j_W p l e R s m args below meth c 4 g b n 0 0 (j_Qi g b n P below args s r) q.2.2.2 P 163 [some (.ref (b + 215)), some (.int (q.1)), some (.int (q.2.1)), some (.int (q.2.2.1))] []) ?_ F (x1, x2, x3, I) r h
  intro again hrec0 q r h
  exact k_M_minutes_163b hF hn X (fun x1 x2 x3 I r h => hrec0 (x1, x2, x3, I) r h) hkb26 h
set_option maxRecDepth 100000 in
set_option maxHeartbeats 4000000 in
theorem k_M_minutes_131 {p : Program} {l : Launch} {e : Env} {R : Room} {s : State} {m : MethodId} {args : Array Value} {below : List Frame} {meth : Method} {c : Code} {g : j_G} {b n : Nat} {P : j_R} {F : Nat} (hF : j_Fx 0 260 P) (hn : 260 ≤ n) (X : j_X p R s m args meth c g b 5 jb_M_minutes 4 "PleasureGardenModel" (some .int)) {kb83 : Int32 → Int32 → Int32 → j_M → Option (Int32 × j_M)} (hkb83 : ∀ (x1 : Int32) (x2 : Int32) (x3 : Int32) (I : j_M) (r : Int32 × j_M), kb83 x1 x2 x3 I = some r → j_W p l e R s m args below meth c 4 g b n 0 0 (j_Qi g b n P below args s r) I P 83 [some (.ref (b + 215)), some (.int x1), some (.int x2), some (.int x3)] []) {x1 : Int32} {x2 : Int32} {x3 : Int32} {I : j_M} {r : Int32 × j_M}  (h : f_M_minutes_131 F kb83 x1 x2 x3 I = some r) : j_W p l e R s m args below meth c 4 g b n 0 0 (j_Qi g b n P below args s r) I P 131 [some (.ref (b + 215)), some (.int x1), some (.int x2), some (.int x3)] [] := by
  unfold f_M_minutes_131 at h
  obtain ⟨v15, ev15, h⟩ := j_ex h
  refine j_iinc (v := v15) (lv' := [some (.ref (b + 215)), some (.int x1), some (.int x2), some (.int v15)]) X jd_M_minutes_131 rfl (by rw [ev15]; rfl) (by decide) rfl ?_
  refine j_goto (tgt := 83) X jd_M_minutes_134 rfl ?_
  exact hkb83 _ _ _ _ _ h
set_option maxRecDepth 100000 in
set_option maxHeartbeats 4000000 in
theorem k_M_minutes_83b {p : Program} {l : Launch} {e : Env} {R : Room} {s : State} {m : MethodId} {args : Array Value} {below : List Frame} {meth : Method} {c : Code} {g : j_G} {b n : Nat} {P : j_R} {F : Nat} (hF : j_Fx 0 260 P) (hn : 260 ≤ n) (X : j_X p R s m args meth c g b 5 jb_M_minutes 4 "PleasureGardenModel" (some .int)) {kb83 : Int32 → Int32 → Int32 → j_M → Option (Int32 × j_M)} (hkb83 : ∀ (x1 : Int32) (x2 : Int32) (x3 : Int32) (I : j_M) (r : Int32 × j_M), kb83 x1 x2 x3 I = some r → j_W p l e R s m args below meth c 4 g b n 0 0 (j_Qi g b n P below args s r) I P 83 [some (.ref (b + 215)), some (.int x1), some (.int x2), some (.int x3)] []) {kb26 : Int32 → Int32 → j_M → Option (Int32 × j_M)} (hkb26 : ∀ (x1 : Int32) (x2 : Int32) (I : j_M) (r : Int32 × j_M), kb26 x1 x2 I = some r → j_W p l e R s m args below meth c 4 g b n 0 0 (j_Qi g b n P below args s r) I P 26 [some (.ref (b + 215)), some (.int x1), some (.int x2), none] []) {x1 : Int32} {x2 : Int32} {x3 : Int32} {I : j_M} {r : Int32 × j_M}  (h : f_M_minutes_83b F kb83 kb26 x1 x2 x3 I = some r) : j_W p l e R s m args below meth c 4 g b n 0 0 (j_Qi g b n P below args s r) I P 83 [some (.ref (b + 215)), some (.int x1), some (.int x2), some (.int x3)] [] := by
  unfold f_M_minutes_83b at h
  refine j_iload_n X jd_M_minutes_83 rfl rfl ?_
  refine j_aload_n X jd_M_minutes_84 rfl rfl ?_
  refine j_get X jf_M_180 jk_12_12 js_215 (j_lt rfl hn) jd_M_minutes_85 ?_
  refine j_icmp_ge (tgt := 137) X jd_M_minutes_88 rfl h (fun h => ?_) (fun h => ?_)
  · refine j_aload_n X jd_M_minutes_137 rfl rfl ?_
    refine j_aload_n X jd_M_minutes_138 rfl rfl ?_
    refine j_get X jf_M_171 jk_12_2 js_215 (j_lt rfl hn) jd_M_minutes_139 ?_
    refine j_callVi (As := [.int (I 215 2)]) (st := []) (c0 := 215) X h jc_M js_215 (j_lt rfl hn) ⟨jqc_M_rainsIn, jqi_M_rainsIn, jqv_M_rainsIn, jqn_M⟩ jlm_M_177 jh_M_rainsIn rfl (by decide) (by decide) (Nat.le_of_ble_eq_true rfl) ⟨Nat.zero_le _, Nat.zero_le _⟩ (fun v0 I0 h => k_M_rainsIn (r := (v0, I0)) hF hn h) jd_M_minutes_142 rfl (fun v16 I17 h => ?_)
    refine j_if_eq (tgt := 214) X jd_M_minutes_145 rfl h (fun h => ?_) (fun h => ?_)
    · refine j_sub [true, true, true, false] (lv' := [some (.ref (b + 215)), some (.int x1), some (.int x2), none]) rfl ?_
      exact k_M_minutes_214 hF hn X hkb26 h
    · refine j_aload_n X jd_M_minutes_148 rfl rfl ?_
      refine j_aload_n X jd_M_minutes_149 rfl rfl ?_
      refine j_get X jf_M_171 jk_12_2 js_215 (j_lt rfl hn) jd_M_minutes_150 ?_
      refine j_iconst (v := 1) X jd_M_minutes_153 (by decide) ?_
      refine j_isub X jd_M_minutes_154 ?_
      refine j_callVi (As := [.int ((I17 215 2) - 1)]) (st := []) (c0 := 215) X h jc_M js_215 (j_lt rfl hn) ⟨jqc_M_rainsIn, jqi_M_rainsIn, jqv_M_rainsIn, jqn_M⟩ jlm_M_177 jh_M_rainsIn rfl (by decide) (by decide) (Nat.le_of_ble_eq_true rfl) ⟨Nat.zero_le _, Nat.zero_le _⟩ (fun v0 I0 h => k_M_rainsIn (r := (v0, I0)) hF hn h) jd_M_minutes_155 rfl (fun v18 I19 h => ?_)
      refine j_if_ne (tgt := 214) X jd_M_minutes_158 rfl h (fun h => ?_) (fun h => ?_)
      · refine j_iconst (v := 0) X jd_M_minutes_161 (by decide) ?_
        refine j_istore_n (lv' := [some (.ref (b + 215)), some (.int x1), some (.int x2), some (.int 0)]) X jd_M_minutes_162 rfl (by decide) rfl ?_
        exact k_M_minutes_163 hF hn X hkb26 h
      · refine j_sub [true, true, true, false] (lv' := [some (.ref (b + 215)), some (.int x1), some (.int x2), none]) rfl ?_
        exact k_M_minutes_214 hF hn X hkb26 h
  · refine j_aload_n X jd_M_minutes_91 rfl rfl ?_
    refine j_getr X jf_M_38 jk_12_15 js_215 (j_lt rfl hn) (jp_215_15 hF) jd_M_minutes_92 ?_
    refine j_iload_n X jd_M_minutes_95 rfl rfl ?_
    refine j_iald X js_225 (j_lt rfl hn) jd_M_minutes_96 h (fun _ h => ?_)
    refine j_iconst (v := 1) X jd_M_minutes_97 (by decide) ?_
    refine j_icmp_ne (tgt := 131) X jd_M_minutes_98 rfl h (fun h => ?_) (fun h => ?_)
    · refine j_aload_n X jd_M_minutes_101 rfl rfl ?_
      refine j_getr X jf_M_44 jk_12_17 js_215 (j_lt rfl hn) (jp_215_17 hF) jd_M_minutes_102 ?_
      refine j_iload_n X jd_M_minutes_105 rfl rfl ?_
      refine j_iald X js_227 (j_lt rfl hn) jd_M_minutes_106 h (fun _ h => ?_)
      refine j_aload_n X jd_M_minutes_107 rfl rfl ?_
      refine j_get X jf_M_171 jk_12_2 js_215 (j_lt rfl hn) jd_M_minutes_108 ?_
      refine j_icmp_eq (tgt := 117) X jd_M_minutes_111 rfl h (fun h => ?_) (fun h => ?_)
      · refine j_aload_n X jd_M_minutes_117 rfl rfl ?_
        refine j_getr X jf_M_38 jk_12_15 js_215 (j_lt rfl hn) (jp_215_15 hF) jd_M_minutes_118 ?_
        refine j_iload_n X jd_M_minutes_121 rfl rfl ?_
        refine j_iconst (v := 0) X jd_M_minutes_122 (by decide) ?_
        refine j_iast X js_225 (j_lt rfl hn) jd_M_minutes_123 h (fun h => ?_)
        refine j_mem h (fun I20 h => ?_)
        refine j_aload_n X jd_M_minutes_124 rfl rfl ?_
        refine j_getr X jf_M_44 jk_12_17 js_215 (j_lt rfl hn) (jp_215_17 hF) jd_M_minutes_125 ?_
        refine j_iload_n X jd_M_minutes_128 rfl rfl ?_
        refine j_iconst (v := (-1)) X jd_M_minutes_129 (by decide) ?_
        refine j_iast X js_227 (j_lt rfl hn) jd_M_minutes_130 h (fun h => ?_)
        refine j_mem h (fun I21 h => ?_)
        exact k_M_minutes_131 hF hn X hkb83 h
      · refine j_goto (tgt := 131) X jd_M_minutes_114 rfl ?_
        exact k_M_minutes_131 hF hn X hkb83 h
    · exact k_M_minutes_131 hF hn X hkb83 h
set_option maxRecDepth 100000 in
set_option maxHeartbeats 4000000 in
theorem k_M_minutes_83 {p : Program} {l : Launch} {e : Env} {R : Room} {s : State} {m : MethodId} {args : Array Value} {below : List Frame} {meth : Method} {c : Code} {g : j_G} {b n : Nat} {P : j_R} {F : Nat} (hF : j_Fx 0 260 P) (hn : 260 ≤ n) (X : j_X p R s m args meth c g b 5 jb_M_minutes 4 "PleasureGardenModel" (some .int)) {kb26 : Int32 → Int32 → j_M → Option (Int32 × j_M)} (hkb26 : ∀ (x1 : Int32) (x2 : Int32) (I : j_M) (r : Int32 × j_M), kb26 x1 x2 I = some r → j_W p l e R s m args below meth c 4 g b n 0 0 (j_Qi g b n P below args s r) I P 26 [some (.ref (b + 215)), some (.int x1), some (.int x2), none] []) {x1 : Int32} {x2 : Int32} {x3 : Int32} {I : j_M} {r : Int32 × j_M} (h : f_M_minutes_83 F kb26 x1 x2 x3 I = some r) : j_W p l e R s m args below meth c 4 g b n 0 0 (j_Qi g b n P below args s r) I P 83 [some (.ref (b + 215)), some (.int x1), some (.int x2), some (.int x3)] [] := by
  refine j_loop (G := fun (q : Int32 × Int32 × Int32 × j_M) (r : Int32 × j_M) => j_W p l e R s m args below meth c 4 g b n 0 0 (j_Qi g b n P below args s r) q.2.2.2 P 83 [some (.ref (b + 215)), some (.int (q.1)), some (.int (q.2.1)), some (.int (q.2.2.1))] []) ?_ F (x1, x2, x3, I) r h
  intro again hrec0 q r h
  exact k_M_minutes_83b hF hn X (fun x1 x2 x3 I r h => hrec0 (x1, x2, x3, I) r h) hkb26 h
set_option maxRecDepth 100000 in
set_option maxHeartbeats 4000000 in
theorem k_M_minutes_54b {p : Program} {l : Launch} {e : Env} {R : Room} {s : State} {m : MethodId} {args : Array Value} {below : List Frame} {meth : Method} {c : Code} {g : j_G} {b n : Nat} {P : j_R} {F : Nat} (hF : j_Fx 0 260 P) (hn : 260 ≤ n) (X : j_X p R s m args meth c g b 5 jb_M_minutes 4 "PleasureGardenModel" (some .int)) {kb54 : Int32 → Int32 → Int32 → j_M → Option (Int32 × j_M)} (hkb54 : ∀ (x1 : Int32) (x2 : Int32) (x3 : Int32) (I : j_M) (r : Int32 × j_M), kb54 x1 x2 x3 I = some r → j_W p l e R s m args below meth c 4 g b n 0 0 (j_Qi g b n P below args s r) I P 54 [some (.ref (b + 215)), some (.int x1), some (.int x2), some (.int x3)] []) {kb26 : Int32 → Int32 → j_M → Option (Int32 × j_M)} (hkb26 : ∀ (x1 : Int32) (x2 : Int32) (I : j_M) (r : Int32 × j_M), kb26 x1 x2 I = some r → j_W p l e R s m args below meth c 4 g b n 0 0 (j_Qi g b n P below args s r) I P 26 [some (.ref (b + 215)), some (.int x1), some (.int x2), none] []) {x1 : Int32} {x2 : Int32} {x3 : Int32} {I : j_M} {r : Int32 × j_M}  (h : f_M_minutes_54b F kb54 kb26 x1 x2 x3 I = some r) : j_W p l e R s m args below meth c 4 g b n 0 0 (j_Qi g b n P below args s r) I P 54 [some (.ref (b + 215)), some (.int x1), some (.int x2), some (.int x3)] [] := by
  unfold f_M_minutes_54b at h
  refine j_iload_n X jd_M_minutes_54 rfl rfl ?_
  refine j_bipush (v := 100) X jd_M_minutes_55 (by decide) ?_
  refine j_icmp_ge (tgt := 81) X jd_M_minutes_57 rfl h (fun h => ?_) (fun h => ?_)
  · refine j_iconst (v := 0) X jd_M_minutes_81 (by decide) ?_
    refine j_istore_n (lv' := [some (.ref (b + 215)), some (.int x1), some (.int x2), some (.int 0)]) X jd_M_minutes_82 rfl (by decide) rfl ?_
    exact k_M_minutes_83 hF hn X hkb26 h
  · refine j_aload_n X jd_M_minutes_60 rfl rfl ?_
    refine j_getr X jf_M_63 jk_12_23 js_215 (j_lt rfl hn) (jp_215_23 hF) jd_M_minutes_61 ?_
    refine j_bipush (v := 100) X jd_M_minutes_64 (by decide) ?_
    refine j_aload_n X jd_M_minutes_66 rfl rfl ?_
    refine j_get X jf_M_171 jk_12_2 js_215 (j_lt rfl hn) jd_M_minutes_67 ?_
    refine j_imul X jd_M_minutes_70 ?_
    refine j_iload_n X jd_M_minutes_71 rfl rfl ?_
    refine j_iadd X jd_M_minutes_72 ?_
    refine j_iconst (v := 0) X jd_M_minutes_73 (by decide) ?_
    refine j_bast X js_233 (j_lt rfl hn) jd_M_minutes_74 h (fun h => ?_)
    refine j_mem h (fun I22 h => ?_)
    obtain ⟨v23, ev23, h⟩ := j_ex h
    refine j_iinc (v := v23) (lv' := [some (.ref (b + 215)), some (.int x1), some (.int x2), some (.int v23)]) X jd_M_minutes_75 rfl (by rw [ev23]; rfl) (by decide) rfl ?_
    refine j_goto (tgt := 54) X jd_M_minutes_78 rfl ?_
    exact hkb54 _ _ _ _ _ h
set_option maxRecDepth 100000 in
set_option maxHeartbeats 4000000 in
theorem k_M_minutes_54 {p : Program} {l : Launch} {e : Env} {R : Room} {s : State} {m : MethodId} {args : Array Value} {below : List Frame} {meth : Method} {c : Code} {g : j_G} {b n : Nat} {P : j_R} {F : Nat} (hF : j_Fx 0 260 P) (hn : 260 ≤ n) (X : j_X p R s m args meth c g b 5 jb_M_minutes 4 "PleasureGardenModel" (some .int)) {kb26 : Int32 → Int32 → j_M → Option (Int32 × j_M)} (hkb26 : ∀ (x1 : Int32) (x2 : Int32) (I : j_M) (r : Int32 × j_M), kb26 x1 x2 I = some r → j_W p l e R s m args below meth c 4 g b n 0 0 (j_Qi g b n P below args s r) I P 26 [some (.ref (b + 215)), some (.int x1), some (.int x2), none] []) {x1 : Int32} {x2 : Int32} {x3 : Int32} {I : j_M} {r : Int32 × j_M} (h : f_M_minutes_54 F kb26 x1 x2 x3 I = some r) : j_W p l e R s m args below meth c 4 g b n 0 0 (j_Qi g b n P below args s r) I P 54 [some (.ref (b + 215)), some (.int x1), some (.int x2), some (.int x3)] [] := by
  refine j_loop (G := fun (q : Int32 × Int32 × Int32 × j_M) (r : Int32 × j_M) => j_W p l e R s m args below meth c 4 g b n 0 0 (j_Qi g b n P below args s r) q.2.2.2 P 54 [some (.ref (b + 215)), some (.int (q.1)), some (.int (q.2.1)), some (.int (q.2.2.1))] []) ?_ F (x1, x2, x3, I) r h
  intro again hrec0 q r h
  exact k_M_minutes_54b hF hn X (fun x1 x2 x3 I r h => hrec0 (x1, x2, x3, I) r h) hkb26 h
set_option maxRecDepth 100000 in
set_option maxHeartbeats 4000000 in
theorem k_M_minutes_42 {p : Program} {l : Launch} {e : Env} {R : Room} {s : State} {m : MethodId} {args : Array Value} {below : List Frame} {meth : Method} {c : Code} {g : j_G} {b n : Nat} {P : j_R} {F : Nat} (hF : j_Fx 0 260 P) (hn : 260 ≤ n) (X : j_X p R s m args meth c g b 5 jb_M_minutes 4 "PleasureGardenModel" (some .int)) {kb26 : Int32 → Int32 → j_M → Option (Int32 × j_M)} (hkb26 : ∀ (x1 : Int32) (x2 : Int32) (I : j_M) (r : Int32 × j_M), kb26 x1 x2 I = some r → j_W p l e R s m args below meth c 4 g b n 0 0 (j_Qi g b n P below args s r) I P 26 [some (.ref (b + 215)), some (.int x1), some (.int x2), none] []) {x1 : Int32} {x2 : Int32} {I : j_M} {r : Int32 × j_M}  (h : f_M_minutes_42 F kb26 x1 x2 I = some r) : j_W p l e R s m args below meth c 4 g b n 0 0 (j_Qi g b n P below args s r) I P 42 [some (.ref (b + 215)), some (.int x1), some (.int x2), none] [] := by
  unfold f_M_minutes_42 at h
  refine j_aload_n X jd_M_minutes_42 rfl rfl ?_
  refine j_dup X jd_M_minutes_43 rfl ?_
  refine j_get X jf_M_171 jk_12_2 js_215 (j_lt rfl hn) jd_M_minutes_44 ?_
  refine j_iconst (v := 1) X jd_M_minutes_47 (by decide) ?_
  refine j_iadd X jd_M_minutes_48 ?_
  refine j_puti X jt_M jto_M jn_M jf_M_171 jk_12_2 js_215 (j_lt rfl hn) (Or.inl rfl) rfl jd_M_minutes_49 ?_
  refine j_mem h (fun I24 h => ?_)
  refine j_iconst (v := 0) X jd_M_minutes_52 (by decide) ?_
  refine j_istore_n (lv' := [some (.ref (b + 215)), some (.int x1), some (.int x2), some (.int 0)]) X jd_M_minutes_53 rfl (by decide) rfl ?_
  exact k_M_minutes_54 hF hn X hkb26 h
set_option maxRecDepth 100000 in
set_option maxHeartbeats 4000000 in
theorem k_M_minutes_26b {p : Program} {l : Launch} {e : Env} {R : Room} {s : State} {m : MethodId} {args : Array Value} {below : List Frame} {meth : Method} {c : Code} {g : j_G} {b n : Nat} {P : j_R} {F : Nat} (hF : j_Fx 0 260 P) (hn : 260 ≤ n) (X : j_X p R s m args meth c g b 5 jb_M_minutes 4 "PleasureGardenModel" (some .int)) {kb26 : Int32 → Int32 → j_M → Option (Int32 × j_M)} (hkb26 : ∀ (x1 : Int32) (x2 : Int32) (I : j_M) (r : Int32 × j_M), kb26 x1 x2 I = some r → j_W p l e R s m args below meth c 4 g b n 0 0 (j_Qi g b n P below args s r) I P 26 [some (.ref (b + 215)), some (.int x1), some (.int x2), none] []) {x1 : Int32} {x2 : Int32} {I : j_M} {r : Int32 × j_M}  (h : f_M_minutes_26b F kb26 x1 x2 I = some r) : j_W p l e R s m args below meth c 4 g b n 0 0 (j_Qi g b n P below args s r) I P 26 [some (.ref (b + 215)), some (.int x1), some (.int x2), none] [] := by
  unfold f_M_minutes_26b at h
  refine j_iload_n X jd_M_minutes_26 rfl rfl ?_
  refine j_iload_n X jd_M_minutes_27 rfl rfl ?_
  refine j_icmp_ge (tgt := 283) X jd_M_minutes_28 rfl h (fun h => ?_) (fun h => ?_)
  · refine j_aload_n X jd_M_minutes_283 rfl rfl ?_
    refine j_get X jf_M_171 jk_12_2 js_215 (j_lt rfl hn) jd_M_minutes_284 ?_
    exact j_iret X rfl jd_M_minutes_287 h
  · refine j_aload_n X jd_M_minutes_31 rfl rfl ?_
    refine j_get X jf_M_171 jk_12_2 js_215 (j_lt rfl hn) jd_M_minutes_32 ?_
    refine j_if_ne (tgt := 42) X jd_M_minutes_35 rfl h (fun h => ?_) (fun h => ?_)
    · refine j_aload_n X jd_M_minutes_38 rfl rfl ?_
      refine j_callVv (As := []) (st := []) (c0 := 215) X h jc_M js_215 (j_lt rfl hn) ⟨jqc_M_keep, jqi_M_keep, jqv_M_keep, jqn_M⟩ jlm_M_220 jh_M_keep rfl (by decide) (by decide) (Nat.le_of_ble_eq_true rfl) ⟨Nat.zero_le _, Nat.zero_le _⟩ (fun v0 I0 h => k_M_keep (r := (v0, I0)) hF hn h) jd_M_minutes_39 rfl (fun v25 I26 h => ?_)
      exact k_M_minutes_42 hF hn X hkb26 h
    · exact k_M_minutes_42 hF hn X hkb26 h
set_option maxRecDepth 100000 in
set_option maxHeartbeats 4000000 in
theorem k_M_minutes_26 {p : Program} {l : Launch} {e : Env} {R : Room} {s : State} {m : MethodId} {args : Array Value} {below : List Frame} {meth : Method} {c : Code} {g : j_G} {b n : Nat} {P : j_R} {F : Nat} (hF : j_Fx 0 260 P) (hn : 260 ≤ n) (X : j_X p R s m args meth c g b 5 jb_M_minutes 4 "PleasureGardenModel" (some .int))  {x1 : Int32} {x2 : Int32} {I : j_M} {r : Int32 × j_M} (h : f_M_minutes_26 F x1 x2 I = some r) : j_W p l e R s m args below meth c 4 g b n 0 0 (j_Qi g b n P below args s r) I P 26 [some (.ref (b + 215)), some (.int x1), some (.int x2), none] [] := by
  refine j_loop (G := fun (q : Int32 × Int32 × j_M) (r : Int32 × j_M) => j_W p l e R s m args below meth c 4 g b n 0 0 (j_Qi g b n P below args s r) q.2.2 P 26 [some (.ref (b + 215)), some (.int (q.1)), some (.int (q.2.1)), none] []) ?_ F (x1, x2, I) r h
  intro again hrec0 q r h
  exact k_M_minutes_26b hF hn X (fun x1 x2 I r h => hrec0 (x1, x2, I) r h)  h
set_option maxRecDepth 100000 in
set_option maxHeartbeats 4000000 in
theorem k_M_minutes {l : Launch} {g : j_G} {b n : Nat} {P : j_R} {F : Nat} (hF : j_Fx 0 260 P) (hn : 260 ≤ n) {x1 : Int32} {I : j_M} {r : Int32 × j_M}  (h : f_M_minutes F x1 I = some r) : j_Met l g b n P 5 jy_M_minutes jb_M_minutes 4 (some .int) [.ref (b + 215), .int x1] I r.2 (some (.int r.1)) := by
  unfold f_M_minutes at h
  refine j_enter (plainFor_of_name (by decide)) (Nat.le_of_ble_eq_true rfl) [some (.ref (b + 215)), some (.int x1), none, none] rfl ?_
  intro p e R s m args below meth c X0 hnm hRc hRs
  have X : j_X p R s m args meth c g b 5 jb_M_minutes 4 "PleasureGardenModel" (some .int) := X0
  clear X0
  refine j_iload_n X jd_M_minutes_0 rfl rfl ?_
  refine j_iconst (v := 1) X jd_M_minutes_1 (by decide) ?_
  refine j_bipush (v := 60) X jd_M_minutes_2 (by decide) ?_
  refine j_callSi (As := [.int x1, .int 1, .int 60]) (st := []) X h ⟨jqc_M_among, jqs_M_among, jqn_M⟩ jlm_M_158 jh_M_among.2 rfl (by decide) (by decide) (Nat.le_of_ble_eq_true rfl) ⟨Nat.zero_le _, Nat.zero_le _⟩ (fun v0 I0 h => k_M_among (r := (v0, I0)) hF hn h) jd_M_minutes_4 rfl (fun v27 I28 h => ?_)
  refine j_if_eq (tgt := 22) X jd_M_minutes_7 rfl h (fun h => ?_) (fun h => ?_)
  · refine j_iconst (v := (-1)) X jd_M_minutes_22 (by decide) ?_
    exact j_iret X rfl jd_M_minutes_23 h
  · refine j_aload_n X jd_M_minutes_10 rfl rfl ?_
    refine j_get X jf_M_171 jk_12_2 js_215 (j_lt rfl hn) jd_M_minutes_11 ?_
    refine j_iload_n X jd_M_minutes_14 rfl rfl ?_
    refine j_iadd X jd_M_minutes_15 ?_
    refine j_sipush (v := 479) X jd_M_minutes_16 (by decide) ?_
    refine j_icmp_le (tgt := 24) X jd_M_minutes_19 rfl h (fun h => ?_) (fun h => ?_)
    · refine j_iconst (v := 0) X jd_M_minutes_24 (by decide) ?_
      refine j_istore_n (lv' := [some (.ref (b + 215)), some (.int x1), some (.int 0), none]) X jd_M_minutes_25 rfl (by decide) rfl ?_
      exact k_M_minutes_26 hF hn X h
    · refine j_iconst (v := (-1)) X jd_M_minutes_22 (by decide) ?_
      exact j_iret X rfl jd_M_minutes_23 h
-- PleasureGardenModel.close()I
theorem jd_M_close_0 : decode jb_M_close 0 = .ok (.aload_n 0, 1) := by decide +kernel
theorem jd_M_close_1 : decode jb_M_close 1 = .ok (.getfield 316, 3) := by decide +kernel
theorem jd_M_close_4 : decode jb_M_close 4 = .ok (.sipush 199, 3) := by decide +kernel
theorem jd_M_close_7 : decode jb_M_close 7 = .ok (.if_icmp .ne 6, 3) := by decide +kernel
theorem jd_M_close_10 : decode jb_M_close 10 = .ok (.bipush (-2), 2) := by decide +kernel
theorem jd_M_close_12 : decode jb_M_close 12 = .ok (.ireturn, 1) := by decide +kernel
theorem jd_M_close_13 : decode jb_M_close 13 = .ok (.iconst 0, 1) := by decide +kernel
theorem jd_M_close_14 : decode jb_M_close 14 = .ok (.istore_n 1, 1) := by decide +kernel
theorem jd_M_close_15 : decode jb_M_close 15 = .ok (.iconst 0, 1) := by decide +kernel
theorem jd_M_close_16 : decode jb_M_close 16 = .ok (.istore_n 2, 1) := by decide +kernel
theorem jd_M_close_17 : decode jb_M_close 17 = .ok (.iload_n 2, 1) := by decide +kernel
theorem jd_M_close_18 : decode jb_M_close 18 = .ok (.aload_n 0, 1) := by decide +kernel
theorem jd_M_close_19 : decode jb_M_close 19 = .ok (.getfield 180, 3) := by decide +kernel
theorem jd_M_close_22 : decode jb_M_close 22 = .ok (.if_icmp .ge 33, 3) := by decide +kernel
theorem jd_M_close_25 : decode jb_M_close 25 = .ok (.iload_n 1, 1) := by decide +kernel
theorem jd_M_close_26 : decode jb_M_close 26 = .ok (.aload_n 0, 1) := by decide +kernel
theorem jd_M_close_27 : decode jb_M_close 27 = .ok (.getfield 32, 3) := by decide +kernel
theorem jd_M_close_30 : decode jb_M_close 30 = .ok (.iload_n 2, 1) := by decide +kernel
theorem jd_M_close_31 : decode jb_M_close 31 = .ok (.iaload, 1) := by decide +kernel
theorem jd_M_close_32 : decode jb_M_close 32 = .ok (.iadd, 1) := by decide +kernel
theorem jd_M_close_33 : decode jb_M_close 33 = .ok (.istore_n 1, 1) := by decide +kernel
theorem jd_M_close_34 : decode jb_M_close 34 = .ok (.aload_n 0, 1) := by decide +kernel
theorem jd_M_close_35 : decode jb_M_close 35 = .ok (.getfield 38, 3) := by decide +kernel
theorem jd_M_close_38 : decode jb_M_close 38 = .ok (.iload_n 2, 1) := by decide +kernel
theorem jd_M_close_39 : decode jb_M_close 39 = .ok (.iaload, 1) := by decide +kernel
theorem jd_M_close_40 : decode jb_M_close 40 = .ok (.iconst 2, 1) := by decide +kernel
theorem jd_M_close_41 : decode jb_M_close 41 = .ok (.if_icmp .eq 8, 3) := by decide +kernel
theorem jd_M_close_44 : decode jb_M_close 44 = .ok (.aload_n 0, 1) := by decide +kernel
theorem jd_M_close_45 : decode jb_M_close 45 = .ok (.iload_n 2, 1) := by decide +kernel
theorem jd_M_close_46 : decode jb_M_close 46 = .ok (.invokevirtual 213, 3) := by decide +kernel
theorem jd_M_close_49 : decode jb_M_close 49 = .ok (.iinc 2 1, 3) := by decide +kernel
theorem jd_M_close_52 : decode jb_M_close 52 = .ok (.goto (-35), 3) := by decide +kernel
theorem jd_M_close_55 : decode jb_M_close 55 = .ok (.aload_n 0, 1) := by decide +kernel
theorem jd_M_close_56 : decode jb_M_close 56 = .ok (.getfield 193, 3) := by decide +kernel
theorem jd_M_close_59 : decode jb_M_close 59 = .ok (.istore_n 2, 1) := by decide +kernel
theorem jd_M_close_60 : decode jb_M_close 60 = .ok (.aload_n 0, 1) := by decide +kernel
theorem jd_M_close_61 : decode jb_M_close 61 = .ok (.getfield 137, 3) := by decide +kernel
theorem jd_M_close_64 : decode jb_M_close 64 = .ok (.aload_n 0, 1) := by decide +kernel
theorem jd_M_close_65 : decode jb_M_close 65 = .ok (.getfield 316, 3) := by decide +kernel
theorem jd_M_close_68 : decode jb_M_close 68 = .ok (.aload_n 0, 1) := by decide +kernel
theorem jd_M_close_69 : decode jb_M_close 69 = .ok (.getfield 193, 3) := by decide +kernel
theorem jd_M_close_72 : decode jb_M_close 72 = .ok (.iastore, 1) := by decide +kernel
theorem jd_M_close_73 : decode jb_M_close 73 = .ok (.aload_n 0, 1) := by decide +kernel
theorem jd_M_close_74 : decode jb_M_close 74 = .ok (.getfield 140, 3) := by decide +kernel
theorem jd_M_close_77 : decode jb_M_close 77 = .ok (.aload_n 0, 1) := by decide +kernel
theorem jd_M_close_78 : decode jb_M_close 78 = .ok (.getfield 316, 3) := by decide +kernel
theorem jd_M_close_81 : decode jb_M_close 81 = .ok (.aload_n 0, 1) := by decide +kernel
theorem jd_M_close_82 : decode jb_M_close 82 = .ok (.iconst 0, 1) := by decide +kernel
theorem jd_M_close_83 : decode jb_M_close 83 = .ok (.invokevirtual 325, 3) := by decide +kernel
theorem jd_M_close_86 : decode jb_M_close 86 = .ok (.iastore, 1) := by decide +kernel
theorem jd_M_close_87 : decode jb_M_close 87 = .ok (.aload_n 0, 1) := by decide +kernel
theorem jd_M_close_88 : decode jb_M_close 88 = .ok (.getfield 143, 3) := by decide +kernel
theorem jd_M_close_91 : decode jb_M_close 91 = .ok (.aload_n 0, 1) := by decide +kernel
theorem jd_M_close_92 : decode jb_M_close 92 = .ok (.getfield 316, 3) := by decide +kernel
theorem jd_M_close_95 : decode jb_M_close 95 = .ok (.iload_n 1, 1) := by decide +kernel
theorem jd_M_close_96 : decode jb_M_close 96 = .ok (.iastore, 1) := by decide +kernel
theorem jd_M_close_97 : decode jb_M_close 97 = .ok (.aload_n 0, 1) := by decide +kernel
theorem jd_M_close_98 : decode jb_M_close 98 = .ok (.dup, 1) := by decide +kernel
theorem jd_M_close_99 : decode jb_M_close 99 = .ok (.getfield 316, 3) := by decide +kernel
theorem jd_M_close_102 : decode jb_M_close 102 = .ok (.iconst 1, 1) := by decide +kernel
theorem jd_M_close_103 : decode jb_M_close 103 = .ok (.iadd, 1) := by decide +kernel
theorem jd_M_close_104 : decode jb_M_close 104 = .ok (.putfield 316, 3) := by decide +kernel
theorem jd_M_close_107 : decode jb_M_close 107 = .ok (.aload_n 0, 1) := by decide +kernel
theorem jd_M_close_108 : decode jb_M_close 108 = .ok (.iconst 0, 1) := by decide +kernel
theorem jd_M_close_109 : decode jb_M_close 109 = .ok (.putfield 171, 3) := by decide +kernel
theorem jd_M_close_112 : decode jb_M_close 112 = .ok (.aload_n 0, 1) := by decide +kernel
theorem jd_M_close_113 : decode jb_M_close 113 = .ok (.iconst 0, 1) := by decide +kernel
theorem jd_M_close_114 : decode jb_M_close 114 = .ok (.putfield 174, 3) := by decide +kernel
theorem jd_M_close_117 : decode jb_M_close 117 = .ok (.aload_n 0, 1) := by decide +kernel
theorem jd_M_close_118 : decode jb_M_close 118 = .ok (.iconst 0, 1) := by decide +kernel
theorem jd_M_close_119 : decode jb_M_close 119 = .ok (.putfield 180, 3) := by decide +kernel
theorem jd_M_close_122 : decode jb_M_close 122 = .ok (.aload_n 0, 1) := by decide +kernel
theorem jd_M_close_123 : decode jb_M_close 123 = .ok (.iconst 0, 1) := by decide +kernel
theorem jd_M_close_124 : decode jb_M_close 124 = .ok (.putfield 196, 3) := by decide +kernel
theorem jd_M_close_127 : decode jb_M_close 127 = .ok (.aload_n 0, 1) := by decide +kernel
theorem jd_M_close_128 : decode jb_M_close 128 = .ok (.iconst 0, 1) := by decide +kernel
theorem jd_M_close_129 : decode jb_M_close 129 = .ok (.putfield 250, 3) := by decide +kernel
theorem jd_M_close_132 : decode jb_M_close 132 = .ok (.aload_n 0, 1) := by decide +kernel
theorem jd_M_close_133 : decode jb_M_close 133 = .ok (.iconst 0, 1) := by decide +kernel
theorem jd_M_close_134 : decode jb_M_close 134 = .ok (.putfield 339, 3) := by decide +kernel
theorem jd_M_close_137 : decode jb_M_close 137 = .ok (.aload_n 0, 1) := by decide +kernel
theorem jd_M_close_138 : decode jb_M_close 138 = .ok (.iconst 0, 1) := by decide +kernel
theorem jd_M_close_139 : decode jb_M_close 139 = .ok (.putfield 229, 3) := by decide +kernel
theorem jd_M_close_142 : decode jb_M_close 142 = .ok (.aload_n 0, 1) := by decide +kernel
theorem jd_M_close_143 : decode jb_M_close 143 = .ok (.iconst 0, 1) := by decide +kernel
theorem jd_M_close_144 : decode jb_M_close 144 = .ok (.putfield 193, 3) := by decide +kernel
theorem jd_M_close_147 : decode jb_M_close 147 = .ok (.iload_n 2, 1) := by decide +kernel
theorem jd_M_close_148 : decode jb_M_close 148 = .ok (.ireturn, 1) := by decide +kernel
def f_M_close_49 (F : Nat) (kb17 : Int32 → Int32 → j_M → Option (Int32 × j_M)) (x1 : Int32) (x2 : Int32) (I : j_M) : Option (Int32 × j_M) := j_let (x2 + 1) (fun v1 => kb17 x1 v1 I)
def f_M_close_17b (F : Nat) (kb17 : Int32 → Int32 → j_M → Option (Int32 × j_M)) (x1 : Int32) (x2 : Int32) (I : j_M) : Option (Int32 × j_M) := (if (I 215 12) ≤ x2 then j_let (I 215 26) (fun v2 => (if j_ok (I 215 1) 200 = true then j_let (j_wr I 255 (j_ix (I 215 1)) (I 215 26)) (fun I3 => j_bd (f_M_rainSince F 0 I3) (fun v4 I5 => (if j_ok (I3 215 1) 200 = true then j_let (j_wr I5 256 (j_ix (I3 215 1)) v4) (fun I6 => (if j_ok (I6 215 1) 200 = true then j_let (j_wr I6 257 (j_ix (I6 215 1)) x1) (fun I7 => j_let (j_wr I7 215 1 ((I7 215 1) + 1)) (fun I8 => j_let (j_wr I8 215 2 0) (fun I9 => j_let (j_wr I9 215 7 0) (fun I10 => j_let (j_wr I10 215 12 0) (fun I11 => j_let (j_wr I11 215 46 0) (fun I12 => j_let (j_wr I12 215 36 0) (fun I13 => j_let (j_wr I13 215 68 0) (fun I14 => j_let (j_wr I14 215 25 0) (fun I15 => j_let (j_wr I15 215 26 0) (fun I16 => some (v2, I16))))))))))) else none)) else none))) else none)) else (if j_ok x2 100 = true then j_let (x1 + (I 223 (j_ix x2))) (fun v17 => (if j_ok x2 100 = true then (if (I 225 (j_ix x2)) = 2 then f_M_close_49 F kb17 v17 x2 I else j_bd (f_M_goesOut F x2 I) (fun v18 I19 => f_M_close_49 F kb17 v17 x2 I19)) else none)) else none))
def f_M_close_17 (F : Nat)  (x1 : Int32) (x2 : Int32) (I : j_M) : Option (Int32 × j_M) := j_it (fun (again : Int32 × Int32 × j_M → Option (Int32 × j_M)) (q : Int32 × Int32 × j_M) => f_M_close_17b F  (fun x1 x2 I => again (x1, x2, I))  q.1 q.2.1 q.2.2) F (x1, x2, I)
def f_M_close (F : Nat)  (I : j_M) : Option (Int32 × j_M) := (if (I 215 1) = 199 then some ((-2), I) else f_M_close_17 F 0 0 I)
set_option maxRecDepth 100000 in
set_option maxHeartbeats 4000000 in
theorem k_M_close_49 {p : Program} {l : Launch} {e : Env} {R : Room} {s : State} {m : MethodId} {args : Array Value} {below : List Frame} {meth : Method} {c : Code} {g : j_G} {b n : Nat} {P : j_R} {F : Nat} (hF : j_Fx 0 260 P) (hn : 260 ≤ n) (X : j_X p R s m args meth c g b 5 jb_M_close 3 "PleasureGardenModel" (some .int)) {kb17 : Int32 → Int32 → j_M → Option (Int32 × j_M)} (hkb17 : ∀ (x1 : Int32) (x2 : Int32) (I : j_M) (r : Int32 × j_M), kb17 x1 x2 I = some r → j_W p l e R s m args below meth c 3 g b n 0 0 (j_Qi g b n P below args s r) I P 17 [some (.ref (b + 215)), some (.int x1), some (.int x2)] []) {x1 : Int32} {x2 : Int32} {I : j_M} {r : Int32 × j_M}  (h : f_M_close_49 F kb17 x1 x2 I = some r) : j_W p l e R s m args below meth c 3 g b n 0 0 (j_Qi g b n P below args s r) I P 49 [some (.ref (b + 215)), some (.int x1), some (.int x2)] [] := by
  unfold f_M_close_49 at h
  obtain ⟨v1, ev1, h⟩ := j_ex h
  refine j_iinc (v := v1) (lv' := [some (.ref (b + 215)), some (.int x1), some (.int v1)]) X jd_M_close_49 rfl (by rw [ev1]; rfl) (by decide) rfl ?_
  refine j_goto (tgt := 17) X jd_M_close_52 rfl ?_
  exact hkb17 _ _ _ _ h
set_option maxRecDepth 100000 in
set_option maxHeartbeats 4000000 in
theorem k_M_close_17b {p : Program} {l : Launch} {e : Env} {R : Room} {s : State} {m : MethodId} {args : Array Value} {below : List Frame} {meth : Method} {c : Code} {g : j_G} {b n : Nat} {P : j_R} {F : Nat} (hF : j_Fx 0 260 P) (hn : 260 ≤ n) (X : j_X p R s m args meth c g b 5 jb_M_close 3 "PleasureGardenModel" (some .int)) {kb17 : Int32 → Int32 → j_M → Option (Int32 × j_M)} (hkb17 : ∀ (x1 : Int32) (x2 : Int32) (I : j_M) (r : Int32 × j_M), kb17 x1 x2 I = some r → j_W p l e R s m args below meth c 3 g b n 0 0 (j_Qi g b n P below args s r) I P 17 [some (.ref (b + 215)), some (.int x1), some (.int x2)] []) {x1 : Int32} {x2 : Int32} {I : j_M} {r : Int32 × j_M}  (h : f_M_close_17b F kb17 x1 x2 I = some r) : j_W p l e R s m args below meth c 3 g b n 0 0 (j_Qi g b n P below args s r) I P 17 [some (.ref (b + 215)), some (.int x1), some (.int x2)] [] := by
  unfold f_M_close_17b at h
  refine j_iload_n X jd_M_close_17 rfl rfl ?_
  refine j_aload_n X jd_M_close_18 rfl rfl ?_
  refine j_get X jf_M_180 jk_12_12 js_215 (j_lt rfl hn) jd_M_close_19 ?_
  refine j_icmp_ge (tgt := 55) X jd_M_close_22 rfl h (fun h => ?_) (fun h => ?_)
  · refine j_aload_n X jd_M_close_55 rfl rfl ?_
    refine j_get X jf_M_193 jk_12_26 js_215 (j_lt rfl hn) jd_M_close_56 ?_
    refine j_nm h (fun v2 h => ?_)
    refine j_istore_n (lv' := [some (.ref (b + 215)), some (.int x1), some (.int v2)]) X jd_M_close_59 rfl (by decide) rfl ?_
    refine j_aload_n X jd_M_close_60 rfl rfl ?_
    refine j_getr X jf_M_137 jk_12_65 js_215 (j_lt rfl hn) (jp_215_65 hF) jd_M_close_61 ?_
    refine j_aload_n X jd_M_close_64 rfl rfl ?_
    refine j_get X jf_M_316 jk_12_1 js_215 (j_lt rfl hn) jd_M_close_65 ?_
    refine j_aload_n X jd_M_close_68 rfl rfl ?_
    refine j_get X jf_M_193 jk_12_26 js_215 (j_lt rfl hn) jd_M_close_69 ?_
    refine j_iast X js_255 (j_lt rfl hn) jd_M_close_72 h (fun h => ?_)
    refine j_mem h (fun I3 h => ?_)
    refine j_aload_n X jd_M_close_73 rfl rfl ?_
    refine j_getr X jf_M_140 jk_12_66 js_215 (j_lt rfl hn) (jp_215_66 hF) jd_M_close_74 ?_
    refine j_aload_n X jd_M_close_77 rfl rfl ?_
    refine j_get X jf_M_316 jk_12_1 js_215 (j_lt rfl hn) jd_M_close_78 ?_
    refine j_aload_n X jd_M_close_81 rfl rfl ?_
    refine j_iconst (v := 0) X jd_M_close_82 (by decide) ?_
    refine j_callVi (As := [.int 0]) (st := [.int (I3 215 1), .ref (b + 256)]) (c0 := 215) X h jc_M js_215 (j_lt rfl hn) ⟨jqc_M_rainSince, jqi_M_rainSince, jqv_M_rainSince, jqn_M⟩ jlm_M_325 jh_M_rainSince rfl (by decide) (by decide) (Nat.le_of_ble_eq_true rfl) ⟨Nat.zero_le _, Nat.zero_le _⟩ (fun v0 I0 h => k_M_rainSince (r := (v0, I0)) hF hn h) jd_M_close_83 rfl (fun v4 I5 h => ?_)
    refine j_iast X js_256 (j_lt rfl hn) jd_M_close_86 h (fun h => ?_)
    refine j_mem h (fun I6 h => ?_)
    refine j_aload_n X jd_M_close_87 rfl rfl ?_
    refine j_getr X jf_M_143 jk_12_67 js_215 (j_lt rfl hn) (jp_215_67 hF) jd_M_close_88 ?_
    refine j_aload_n X jd_M_close_91 rfl rfl ?_
    refine j_get X jf_M_316 jk_12_1 js_215 (j_lt rfl hn) jd_M_close_92 ?_
    refine j_iload_n X jd_M_close_95 rfl rfl ?_
    refine j_iast X js_257 (j_lt rfl hn) jd_M_close_96 h (fun h => ?_)
    refine j_mem h (fun I7 h => ?_)
    refine j_aload_n X jd_M_close_97 rfl rfl ?_
    refine j_dup X jd_M_close_98 rfl ?_
    refine j_get X jf_M_316 jk_12_1 js_215 (j_lt rfl hn) jd_M_close_99 ?_
    refine j_iconst (v := 1) X jd_M_close_102 (by decide) ?_
    refine j_iadd X jd_M_close_103 ?_
    refine j_puti X jt_M jto_M jn_M jf_M_316 jk_12_1 js_215 (j_lt rfl hn) (Or.inl rfl) rfl jd_M_close_104 ?_
    refine j_mem h (fun I8 h => ?_)
    refine j_aload_n X jd_M_close_107 rfl rfl ?_
    refine j_iconst (v := 0) X jd_M_close_108 (by decide) ?_
    refine j_puti X jt_M jto_M jn_M jf_M_171 jk_12_2 js_215 (j_lt rfl hn) (Or.inl rfl) rfl jd_M_close_109 ?_
    refine j_mem h (fun I9 h => ?_)
    refine j_aload_n X jd_M_close_112 rfl rfl ?_
    refine j_iconst (v := 0) X jd_M_close_113 (by decide) ?_
    refine j_puti X jt_M jto_M jn_M jf_M_174 jk_12_7 js_215 (j_lt rfl hn) (Or.inl rfl) rfl jd_M_close_114 ?_
    refine j_mem h (fun I10 h => ?_)
    refine j_aload_n X jd_M_close_117 rfl rfl ?_
    refine j_iconst (v := 0) X jd_M_close_118 (by decide) ?_
    refine j_puti X jt_M jto_M jn_M jf_M_180 jk_12_12 js_215 (j_lt rfl hn) (Or.inl rfl) rfl jd_M_close_119 ?_
    refine j_mem h (fun I11 h => ?_)
    refine j_aload_n X jd_M_close_122 rfl rfl ?_
    refine j_iconst (v := 0) X jd_M_close_123 (by decide) ?_
    refine j_puti X jt_M jto_M jn_M jf_M_196 jk_12_46 js_215 (j_lt rfl hn) (Or.inl rfl) rfl jd_M_close_124 ?_
    refine j_mem h (fun I12 h => ?_)
    refine j_aload_n X jd_M_close_127 rfl rfl ?_
    refine j_iconst (v := 0) X jd_M_close_128 (by decide) ?_
    refine j_put X jt_M jto_M jn_M jf_M_250 jk_12_36 js_215 (j_lt rfl hn) (Or.inl rfl) rfl (by decide) (by decide) jd_M_close_129 ?_
    refine j_mem h (fun I13 h => ?_)
    refine j_aload_n X jd_M_close_132 rfl rfl ?_
    refine j_iconst (v := 0) X jd_M_close_133 (by decide) ?_
    refine j_puti X jt_M jto_M jn_M jf_M_339 jk_12_68 js_215 (j_lt rfl hn) (Or.inl rfl) rfl jd_M_close_134 ?_
    refine j_mem h (fun I14 h => ?_)
    refine j_aload_n X jd_M_close_137 rfl rfl ?_
    refine j_iconst (v := 0) X jd_M_close_138 (by decide) ?_
    refine j_puti X jt_M jto_M jn_M jf_M_229 jk_12_25 js_215 (j_lt rfl hn) (Or.inl rfl) rfl jd_M_close_139 ?_
    refine j_mem h (fun I15 h => ?_)
    refine j_aload_n X jd_M_close_142 rfl rfl ?_
    refine j_iconst (v := 0) X jd_M_close_143 (by decide) ?_
    refine j_puti X jt_M jto_M jn_M jf_M_193 jk_12_26 js_215 (j_lt rfl hn) (Or.inl rfl) rfl jd_M_close_144 ?_
    refine j_mem h (fun I16 h => ?_)
    refine j_iload_n X jd_M_close_147 rfl rfl ?_
    exact j_iret X rfl jd_M_close_148 h
  · refine j_iload_n X jd_M_close_25 rfl rfl ?_
    refine j_aload_n X jd_M_close_26 rfl rfl ?_
    refine j_getr X jf_M_32 jk_12_13 js_215 (j_lt rfl hn) (jp_215_13 hF) jd_M_close_27 ?_
    refine j_iload_n X jd_M_close_30 rfl rfl ?_
    refine j_iald X js_223 (j_lt rfl hn) jd_M_close_31 h (fun _ h => ?_)
    refine j_iadd X jd_M_close_32 ?_
    refine j_nm h (fun v17 h => ?_)
    refine j_istore_n (lv' := [some (.ref (b + 215)), some (.int v17), some (.int x2)]) X jd_M_close_33 rfl (by decide) rfl ?_
    refine j_aload_n X jd_M_close_34 rfl rfl ?_
    refine j_getr X jf_M_38 jk_12_15 js_215 (j_lt rfl hn) (jp_215_15 hF) jd_M_close_35 ?_
    refine j_iload_n X jd_M_close_38 rfl rfl ?_
    refine j_iald X js_225 (j_lt rfl hn) jd_M_close_39 h (fun _ h => ?_)
    refine j_iconst (v := 2) X jd_M_close_40 (by decide) ?_
    refine j_icmp_eq (tgt := 49) X jd_M_close_41 rfl h (fun h => ?_) (fun h => ?_)
    · exact k_M_close_49 hF hn X hkb17 h
    · refine j_aload_n X jd_M_close_44 rfl rfl ?_
      refine j_iload_n X jd_M_close_45 rfl rfl ?_
      refine j_callVv (As := [.int x2]) (st := []) (c0 := 215) X h jc_M js_215 (j_lt rfl hn) ⟨jqc_M_goesOut, jqi_M_goesOut, jqv_M_goesOut, jqn_M⟩ jlm_M_213 jh_M_goesOut rfl (by decide) (by decide) (Nat.le_of_ble_eq_true rfl) ⟨Nat.zero_le _, Nat.zero_le _⟩ (fun v0 I0 h => k_M_goesOut (r := (v0, I0)) hF hn h) jd_M_close_46 rfl (fun v18 I19 h => ?_)
      exact k_M_close_49 hF hn X hkb17 h
set_option maxRecDepth 100000 in
set_option maxHeartbeats 4000000 in
theorem k_M_close_17 {p : Program} {l : Launch} {e : Env} {R : Room} {s : State} {m : MethodId} {args : Array Value} {below : List Frame} {meth : Method} {c : Code} {g : j_G} {b n : Nat} {P : j_R} {F : Nat} (hF : j_Fx 0 260 P) (hn : 260 ≤ n) (X : j_X p R s m args meth c g b 5 jb_M_close 3 "PleasureGardenModel" (some .int))  {x1 : Int32} {x2 : Int32} {I : j_M} {r : Int32 × j_M} (h : f_M_close_17 F x1 x2 I = some r) : j_W p l e R s m args below meth c 3 g b n 0 0 (j_Qi g b n P below args s r) I P 17 [some (.ref (b + 215)), some (.int x1), some (.int x2)] [] := by
  refine j_loop (G := fun (q : Int32 × Int32 × j_M) (r : Int32 × j_M) => j_W p l e R s m args below meth c 3 g b n 0 0 (j_Qi g b n P below args s r) q.2.2 P 17 [some (.ref (b + 215)), some (.int (q.1)), some (.int (q.2.1))] []) ?_ F (x1, x2, I) r h
  intro again hrec0 q r h
  exact k_M_close_17b hF hn X (fun x1 x2 I r h => hrec0 (x1, x2, I) r h)  h
set_option maxRecDepth 100000 in
set_option maxHeartbeats 4000000 in
theorem k_M_close {l : Launch} {g : j_G} {b n : Nat} {P : j_R} {F : Nat} (hF : j_Fx 0 260 P) (hn : 260 ≤ n)  {I : j_M} {r : Int32 × j_M}  (h : f_M_close F I = some r) : j_Met l g b n P 5 jy_M_close jb_M_close 3 (some .int) [.ref (b + 215)] I r.2 (some (.int r.1)) := by
  unfold f_M_close at h
  refine j_enter (plainFor_of_name (by decide)) (Nat.le_of_ble_eq_true rfl) [some (.ref (b + 215)), none, none] rfl ?_
  intro p e R s m args below meth c X0 hnm hRc hRs
  have X : j_X p R s m args meth c g b 5 jb_M_close 3 "PleasureGardenModel" (some .int) := X0
  clear X0
  refine j_aload_n X jd_M_close_0 rfl rfl ?_
  refine j_get X jf_M_316 jk_12_1 js_215 (j_lt rfl hn) jd_M_close_1 ?_
  refine j_sipush (v := 199) X jd_M_close_4 (by decide) ?_
  refine j_icmp_ne (tgt := 13) X jd_M_close_7 rfl h (fun h => ?_) (fun h => ?_)
  · refine j_bipush (v := (-2)) X jd_M_close_10 (by decide) ?_
    exact j_iret X rfl jd_M_close_12 h
  · refine j_iconst (v := 0) X jd_M_close_13 (by decide) ?_
    refine j_istore_n (lv' := [some (.ref (b + 215)), some (.int 0), none]) X jd_M_close_14 rfl (by decide) rfl ?_
    refine j_iconst (v := 0) X jd_M_close_15 (by decide) ?_
    refine j_istore_n (lv' := [some (.ref (b + 215)), some (.int 0), some (.int 0)]) X jd_M_close_16 rfl (by decide) rfl ?_
    exact k_M_close_17 hF hn X h
