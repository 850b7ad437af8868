-- PleasureGarden$Grounds.has(I)Z
theorem jd_Gr_has_0 : decode jb_Gr_has 0 = .ok (.iload_n 1, 1) := by decide +kernel
theorem jd_Gr_has_1 : decode jb_Gr_has 1 = .ok (.ifCond .lt 15, 3) := by decide +kernel
theorem jd_Gr_has_4 : decode jb_Gr_has 4 = .ok (.iload_n 1, 1) := by decide +kernel
theorem jd_Gr_has_5 : decode jb_Gr_has 5 = .ok (.aload_n 0, 1) := by decide +kernel
theorem jd_Gr_has_6 : decode jb_Gr_has 6 = .ok (.getfield 9, 3) := by decide +kernel
theorem jd_Gr_has_9 : decode jb_Gr_has 9 = .ok (.if_icmp .ge 7, 3) := by decide +kernel
theorem jd_Gr_has_12 : decode jb_Gr_has 12 = .ok (.iconst 1, 1) := by decide +kernel
theorem jd_Gr_has_13 : decode jb_Gr_has 13 = .ok (.goto 4, 3) := by decide +kernel
theorem jd_Gr_has_16 : decode jb_Gr_has 16 = .ok (.iconst 0, 1) := by decide +kernel
theorem jd_Gr_has_17 : decode jb_Gr_has 17 = .ok (.ireturn, 1) := by decide +kernel
def f_Gr_has (F : Nat) (x1 : Int32) (I : j_M) : Option (Int32 × j_M) := (if x1 < 0 then some (0, I) else (if (I 1 0) ≤ x1 then some (0, I) else some (1, I)))
set_option maxRecDepth 100000 in
set_option maxHeartbeats 4000000 in
theorem k_Gr_has {l : Launch} {g : j_G} {b n : Nat} {P : j_R} {F : Nat} (hF : j_Fx 1 38 P) (hn : 38 ≤ n) {x1 : Int32} {I : j_M} {r : Int32 × j_M}  (h : f_Gr_has F x1 I = some r) : j_Met l g b n P 0 jy_Gr_has jb_Gr_has 2 (some .boolean) [.ref (b + 1), .int x1] I r.2 (some (.int r.1)) := by
  unfold f_Gr_has at h
  refine j_enter (plainFor_of_name (by decide)) (Nat.le_of_ble_eq_true rfl) [some (.ref (b + 1)), some (.int x1)] rfl ?_
  intro p e R s m args below meth c X0 hnm hRc hRs
  have X : j_X p R s m args meth c g b 0 jb_Gr_has 2 "PleasureGarden$Grounds" (some .boolean) := X0
  clear X0
  refine j_iload_n X jd_Gr_has_0 rfl rfl ?_
  refine j_if_lt (tgt := 16) X jd_Gr_has_1 rfl h (fun h => ?_) (fun h => ?_)
  · refine j_iconst (v := 0) X jd_Gr_has_16 (by decide) ?_
    exact j_zret X rfl (by decide) jd_Gr_has_17 h
  · refine j_iload_n X jd_Gr_has_4 rfl rfl ?_
    refine j_aload_n X jd_Gr_has_5 rfl rfl ?_
    refine j_get X jf_Gr_9 jk_1_0 js_1 (j_lt rfl hn) jd_Gr_has_6 ?_
    refine j_icmp_ge (tgt := 16) X jd_Gr_has_9 rfl h (fun h => ?_) (fun h => ?_)
    · refine j_iconst (v := 0) X jd_Gr_has_16 (by decide) ?_
      exact j_zret X rfl (by decide) jd_Gr_has_17 h
    · refine j_iconst (v := 1) X jd_Gr_has_12 (by decide) ?_
      refine j_goto (tgt := 17) X jd_Gr_has_13 rfl ?_
      exact j_zret X rfl (by decide) jd_Gr_has_17 h
-- PleasureGarden$Grounds.add(IZ)I
theorem jd_Gr_add_0 : decode jb_Gr_add 0 = .ok (.aload_n 0, 1) := by decide +kernel
theorem jd_Gr_add_1 : decode jb_Gr_add 1 = .ok (.getfield 15, 3) := by decide +kernel
theorem jd_Gr_add_4 : decode jb_Gr_add 4 = .ok (.aload_n 0, 1) := by decide +kernel
theorem jd_Gr_add_5 : decode jb_Gr_add 5 = .ok (.getfield 9, 3) := by decide +kernel
theorem jd_Gr_add_8 : decode jb_Gr_add 8 = .ok (.iload_n 1, 1) := by decide +kernel
theorem jd_Gr_add_9 : decode jb_Gr_add 9 = .ok (.iastore, 1) := by decide +kernel
theorem jd_Gr_add_10 : decode jb_Gr_add 10 = .ok (.aload_n 0, 1) := by decide +kernel
theorem jd_Gr_add_11 : decode jb_Gr_add 11 = .ok (.getfield 19, 3) := by decide +kernel
theorem jd_Gr_add_14 : decode jb_Gr_add 14 = .ok (.aload_n 0, 1) := by decide +kernel
theorem jd_Gr_add_15 : decode jb_Gr_add 15 = .ok (.getfield 9, 3) := by decide +kernel
theorem jd_Gr_add_18 : decode jb_Gr_add 18 = .ok (.iload_n 2, 1) := by decide +kernel
theorem jd_Gr_add_19 : decode jb_Gr_add 19 = .ok (.bastore, 1) := by decide +kernel
theorem jd_Gr_add_20 : decode jb_Gr_add 20 = .ok (.aload_n 0, 1) := by decide +kernel
theorem jd_Gr_add_21 : decode jb_Gr_add 21 = .ok (.dup, 1) := by decide +kernel
theorem jd_Gr_add_22 : decode jb_Gr_add 22 = .ok (.getfield 9, 3) := by decide +kernel
theorem jd_Gr_add_25 : decode jb_Gr_add 25 = .ok (.iconst 1, 1) := by decide +kernel
theorem jd_Gr_add_26 : decode jb_Gr_add 26 = .ok (.iadd, 1) := by decide +kernel
theorem jd_Gr_add_27 : decode jb_Gr_add 27 = .ok (.putfield 9, 3) := by decide +kernel
theorem jd_Gr_add_30 : decode jb_Gr_add 30 = .ok (.aload_n 0, 1) := by decide +kernel
theorem jd_Gr_add_31 : decode jb_Gr_add 31 = .ok (.getfield 9, 3) := by decide +kernel
theorem jd_Gr_add_34 : decode jb_Gr_add 34 = .ok (.iconst 1, 1) := by decide +kernel
theorem jd_Gr_add_35 : decode jb_Gr_add 35 = .ok (.isub, 1) := by decide +kernel
theorem jd_Gr_add_36 : decode jb_Gr_add 36 = .ok (.ireturn, 1) := by decide +kernel
def f_Gr_add (F : Nat) (x1 : Int32) (x2 : Int32) (I : j_M) : Option (Int32 × j_M) := (if j_ok (I 1 0) 16 = true then j_let (j_wr I 2 (j_ix (I 1 0)) x1) (fun I1 => (if j_ok (I1 1 0) 16 = true then j_let (j_wr I1 3 (j_ix (I1 1 0)) (x2 &&& 1)) (fun I2 => j_let (j_wr I2 1 0 ((I2 1 0) + 1)) (fun I3 => some ((I3 1 0) - 1, I3))) else none)) else none)
set_option maxRecDepth 100000 in
set_option maxHeartbeats 4000000 in
theorem k_Gr_add {l : Launch} {g : j_G} {b n : Nat} {P : j_R} {F : Nat} (hF : j_Fx 1 38 P) (hn : 38 ≤ n) {x1 : Int32} {x2 : Int32} {I : j_M} {r : Int32 × j_M}  (h : f_Gr_add F x1 x2 I = some r) : j_Met l g b n P 0 jy_Gr_add jb_Gr_add 3 (some .int) [.ref (b + 1), .int x1, .int x2] I r.2 (some (.int r.1)) := by
  unfold f_Gr_add at h
  refine j_enter (plainFor_of_name (by decide)) (Nat.le_of_ble_eq_true rfl) [some (.ref (b + 1)), some (.int x1), some (.int x2)] rfl ?_
  intro p e R s m args below meth c X0 hnm hRc hRs
  have X : j_X p R s m args meth c g b 0 jb_Gr_add 3 "PleasureGarden$Grounds" (some .int) := X0
  clear X0
  refine j_aload_n X jd_Gr_add_0 rfl rfl ?_
  refine j_getr X jf_Gr_15 jk_1_1 js_1 (j_lt rfl hn) (jp_1_1 hF) jd_Gr_add_1 ?_
  refine j_aload_n X jd_Gr_add_4 rfl rfl ?_
  refine j_get X jf_Gr_9 jk_1_0 js_1 (j_lt rfl hn) jd_Gr_add_5 ?_
  refine j_iload_n X jd_Gr_add_8 rfl rfl ?_
  refine j_iast X js_2 (j_lt rfl hn) jd_Gr_add_9 h (fun h => ?_)
  refine j_mem h (fun I1 h => ?_)
  refine j_aload_n X jd_Gr_add_10 rfl rfl ?_
  refine j_getr X jf_Gr_19 jk_1_2 js_1 (j_lt rfl hn) (jp_1_2 hF) jd_Gr_add_11 ?_
  refine j_aload_n X jd_Gr_add_14 rfl rfl ?_
  refine j_get X jf_Gr_9 jk_1_0 js_1 (j_lt rfl hn) jd_Gr_add_15 ?_
  refine j_iload_n X jd_Gr_add_18 rfl rfl ?_
  refine j_zast X js_3 (j_lt rfl hn) jd_Gr_add_19 h (fun h => ?_)
  refine j_mem h (fun I2 h => ?_)
  refine j_aload_n X jd_Gr_add_20 rfl rfl ?_
  refine j_dup X jd_Gr_add_21 rfl ?_
  refine j_get X jf_Gr_9 jk_1_0 js_1 (j_lt rfl hn) jd_Gr_add_22 ?_
  refine j_iconst (v := 1) X jd_Gr_add_25 (by decide) ?_
  refine j_iadd X jd_Gr_add_26 ?_
  refine j_puti X jt_Gr jto_Gr jn_Gr jf_Gr_9 jk_1_0 js_1 (j_lt rfl hn) (Or.inl rfl) rfl jd_Gr_add_27 ?_
  refine j_mem h (fun I3 h => ?_)
  refine j_aload_n X jd_Gr_add_30 rfl rfl ?_
  refine j_get X jf_Gr_9 jk_1_0 js_1 (j_lt rfl hn) jd_Gr_add_31 ?_
  refine j_iconst (v := 1) X jd_Gr_add_34 (by decide) ?_
  refine j_isub X jd_Gr_add_35 ?_
  exact j_iret X rfl jd_Gr_add_36 h
-- PleasureGarden$Grounds.measure()V
theorem jd_Gr_measure_0 : decode jb_Gr_measure 0 = .ok (.iconst 0, 1) := by decide +kernel
theorem jd_Gr_measure_1 : decode jb_Gr_measure 1 = .ok (.istore_n 1, 1) := by decide +kernel
theorem jd_Gr_measure_2 : decode jb_Gr_measure 2 = .ok (.iload_n 1, 1) := by decide +kernel
theorem jd_Gr_measure_3 : decode jb_Gr_measure 3 = .ok (.bipush 16, 2) := by decide +kernel
theorem jd_Gr_measure_5 : decode jb_Gr_measure 5 = .ok (.if_icmp .ge 66, 3) := by decide +kernel
theorem jd_Gr_measure_8 : decode jb_Gr_measure 8 = .ok (.iconst 0, 1) := by decide +kernel
theorem jd_Gr_measure_9 : decode jb_Gr_measure 9 = .ok (.istore_n 2, 1) := by decide +kernel
theorem jd_Gr_measure_10 : decode jb_Gr_measure 10 = .ok (.iload_n 2, 1) := by decide +kernel
theorem jd_Gr_measure_11 : decode jb_Gr_measure 11 = .ok (.bipush 16, 2) := by decide +kernel
theorem jd_Gr_measure_13 : decode jb_Gr_measure 13 = .ok (.if_icmp .ge 52, 3) := by decide +kernel
theorem jd_Gr_measure_16 : decode jb_Gr_measure 16 = .ok (.aload_n 0, 1) := by decide +kernel
theorem jd_Gr_measure_17 : decode jb_Gr_measure 17 = .ok (.getfield 25, 3) := by decide +kernel
theorem jd_Gr_measure_20 : decode jb_Gr_measure 20 = .ok (.iload_n 1, 1) := by decide +kernel
theorem jd_Gr_measure_21 : decode jb_Gr_measure 21 = .ok (.aaload, 1) := by decide +kernel
theorem jd_Gr_measure_22 : decode jb_Gr_measure 22 = .ok (.iload_n 2, 1) := by decide +kernel
theorem jd_Gr_measure_23 : decode jb_Gr_measure 23 = .ok (.iaload, 1) := by decide +kernel
theorem jd_Gr_measure_24 : decode jb_Gr_measure 24 = .ok (.ifCond .ne 8, 3) := by decide +kernel
theorem jd_Gr_measure_27 : decode jb_Gr_measure 27 = .ok (.ldc 34, 2) := by decide +kernel
theorem jd_Gr_measure_29 : decode jb_Gr_measure 29 = .ok (.goto 11, 3) := by decide +kernel
theorem jd_Gr_measure_32 : decode jb_Gr_measure 32 = .ok (.aload_n 0, 1) := by decide +kernel
theorem jd_Gr_measure_33 : decode jb_Gr_measure 33 = .ok (.getfield 25, 3) := by decide +kernel
theorem jd_Gr_measure_36 : decode jb_Gr_measure 36 = .ok (.iload_n 1, 1) := by decide +kernel
theorem jd_Gr_measure_37 : decode jb_Gr_measure 37 = .ok (.aaload, 1) := by decide +kernel
theorem jd_Gr_measure_38 : decode jb_Gr_measure 38 = .ok (.iload_n 2, 1) := by decide +kernel
theorem jd_Gr_measure_39 : decode jb_Gr_measure 39 = .ok (.iaload, 1) := by decide +kernel
theorem jd_Gr_measure_40 : decode jb_Gr_measure 40 = .ok (.istore_n 3, 1) := by decide +kernel
theorem jd_Gr_measure_41 : decode jb_Gr_measure 41 = .ok (.aload_n 0, 1) := by decide +kernel
theorem jd_Gr_measure_42 : decode jb_Gr_measure 42 = .ok (.getfield 28, 3) := by decide +kernel
theorem jd_Gr_measure_45 : decode jb_Gr_measure 45 = .ok (.iload_n 1, 1) := by decide +kernel
theorem jd_Gr_measure_46 : decode jb_Gr_measure 46 = .ok (.aaload, 1) := by decide +kernel
theorem jd_Gr_measure_47 : decode jb_Gr_measure 47 = .ok (.iload_n 2, 1) := by decide +kernel
theorem jd_Gr_measure_48 : decode jb_Gr_measure 48 = .ok (.iload_n 1, 1) := by decide +kernel
theorem jd_Gr_measure_49 : decode jb_Gr_measure 49 = .ok (.iload_n 2, 1) := by decide +kernel
theorem jd_Gr_measure_50 : decode jb_Gr_measure 50 = .ok (.if_icmp .ne 7, 3) := by decide +kernel
theorem jd_Gr_measure_53 : decode jb_Gr_measure 53 = .ok (.iconst 0, 1) := by decide +kernel
theorem jd_Gr_measure_54 : decode jb_Gr_measure 54 = .ok (.goto 4, 3) := by decide +kernel
theorem jd_Gr_measure_57 : decode jb_Gr_measure 57 = .ok (.iload_n 3, 1) := by decide +kernel
theorem jd_Gr_measure_58 : decode jb_Gr_measure 58 = .ok (.iastore, 1) := by decide +kernel
theorem jd_Gr_measure_59 : decode jb_Gr_measure 59 = .ok (.iinc 2 1, 3) := by decide +kernel
theorem jd_Gr_measure_62 : decode jb_Gr_measure 62 = .ok (.goto (-52), 3) := by decide +kernel
theorem jd_Gr_measure_65 : decode jb_Gr_measure 65 = .ok (.iinc 1 1, 3) := by decide +kernel
theorem jd_Gr_measure_68 : decode jb_Gr_measure 68 = .ok (.goto (-66), 3) := by decide +kernel
theorem jd_Gr_measure_71 : decode jb_Gr_measure 71 = .ok (.iconst 0, 1) := by decide +kernel
theorem jd_Gr_measure_72 : decode jb_Gr_measure 72 = .ok (.istore_n 1, 1) := by decide +kernel
theorem jd_Gr_measure_73 : decode jb_Gr_measure 73 = .ok (.iload_n 1, 1) := by decide +kernel
theorem jd_Gr_measure_74 : decode jb_Gr_measure 74 = .ok (.aload_n 0, 1) := by decide +kernel
theorem jd_Gr_measure_75 : decode jb_Gr_measure 75 = .ok (.getfield 9, 3) := by decide +kernel
theorem jd_Gr_measure_78 : decode jb_Gr_measure 78 = .ok (.if_icmp .ge 77, 3) := by decide +kernel
theorem jd_Gr_measure_81 : decode jb_Gr_measure 81 = .ok (.iconst 0, 1) := by decide +kernel
theorem jd_Gr_measure_82 : decode jb_Gr_measure 82 = .ok (.istore_n 2, 1) := by decide +kernel
theorem jd_Gr_measure_83 : decode jb_Gr_measure 83 = .ok (.iload_n 2, 1) := by decide +kernel
theorem jd_Gr_measure_84 : decode jb_Gr_measure 84 = .ok (.aload_n 0, 1) := by decide +kernel
theorem jd_Gr_measure_85 : decode jb_Gr_measure 85 = .ok (.getfield 9, 3) := by decide +kernel
theorem jd_Gr_measure_88 : decode jb_Gr_measure 88 = .ok (.if_icmp .ge 61, 3) := by decide +kernel
theorem jd_Gr_measure_91 : decode jb_Gr_measure 91 = .ok (.iconst 0, 1) := by decide +kernel
theorem jd_Gr_measure_92 : decode jb_Gr_measure 92 = .ok (.istore_n 3, 1) := by decide +kernel
theorem jd_Gr_measure_93 : decode jb_Gr_measure 93 = .ok (.iload_n 3, 1) := by decide +kernel
theorem jd_Gr_measure_94 : decode jb_Gr_measure 94 = .ok (.aload_n 0, 1) := by decide +kernel
theorem jd_Gr_measure_95 : decode jb_Gr_measure 95 = .ok (.getfield 9, 3) := by decide +kernel
theorem jd_Gr_measure_98 : decode jb_Gr_measure 98 = .ok (.if_icmp .ge 45, 3) := by decide +kernel
theorem jd_Gr_measure_101 : decode jb_Gr_measure 101 = .ok (.aload_n 0, 1) := by decide +kernel
theorem jd_Gr_measure_102 : decode jb_Gr_measure 102 = .ok (.getfield 28, 3) := by decide +kernel
theorem jd_Gr_measure_105 : decode jb_Gr_measure 105 = .ok (.iload_n 2, 1) := by decide +kernel
theorem jd_Gr_measure_106 : decode jb_Gr_measure 106 = .ok (.aaload, 1) := by decide +kernel
theorem jd_Gr_measure_107 : decode jb_Gr_measure 107 = .ok (.iload_n 3, 1) := by decide +kernel
theorem jd_Gr_measure_108 : decode jb_Gr_measure 108 = .ok (.aload_n 0, 1) := by decide +kernel
theorem jd_Gr_measure_109 : decode jb_Gr_measure 109 = .ok (.getfield 28, 3) := by decide +kernel
theorem jd_Gr_measure_112 : decode jb_Gr_measure 112 = .ok (.iload_n 2, 1) := by decide +kernel
theorem jd_Gr_measure_113 : decode jb_Gr_measure 113 = .ok (.aaload, 1) := by decide +kernel
theorem jd_Gr_measure_114 : decode jb_Gr_measure 114 = .ok (.iload_n 3, 1) := by decide +kernel
theorem jd_Gr_measure_115 : decode jb_Gr_measure 115 = .ok (.iaload, 1) := by decide +kernel
theorem jd_Gr_measure_116 : decode jb_Gr_measure 116 = .ok (.aload_n 0, 1) := by decide +kernel
theorem jd_Gr_measure_117 : decode jb_Gr_measure 117 = .ok (.getfield 28, 3) := by decide +kernel
theorem jd_Gr_measure_120 : decode jb_Gr_measure 120 = .ok (.iload_n 2, 1) := by decide +kernel
theorem jd_Gr_measure_121 : decode jb_Gr_measure 121 = .ok (.aaload, 1) := by decide +kernel
theorem jd_Gr_measure_122 : decode jb_Gr_measure 122 = .ok (.iload_n 1, 1) := by decide +kernel
theorem jd_Gr_measure_123 : decode jb_Gr_measure 123 = .ok (.iaload, 1) := by decide +kernel
theorem jd_Gr_measure_124 : decode jb_Gr_measure 124 = .ok (.aload_n 0, 1) := by decide +kernel
theorem jd_Gr_measure_125 : decode jb_Gr_measure 125 = .ok (.getfield 28, 3) := by decide +kernel
theorem jd_Gr_measure_128 : decode jb_Gr_measure 128 = .ok (.iload_n 1, 1) := by decide +kernel
theorem jd_Gr_measure_129 : decode jb_Gr_measure 129 = .ok (.aaload, 1) := by decide +kernel
theorem jd_Gr_measure_130 : decode jb_Gr_measure 130 = .ok (.iload_n 3, 1) := by decide +kernel
theorem jd_Gr_measure_131 : decode jb_Gr_measure 131 = .ok (.iaload, 1) := by decide +kernel
theorem jd_Gr_measure_132 : decode jb_Gr_measure 132 = .ok (.iadd, 1) := by decide +kernel
theorem jd_Gr_measure_133 : decode jb_Gr_measure 133 = .ok (.invokestatic 35, 3) := by decide +kernel
theorem jd_Gr_measure_136 : decode jb_Gr_measure 136 = .ok (.iastore, 1) := by decide +kernel
theorem jd_Gr_measure_137 : decode jb_Gr_measure 137 = .ok (.iinc 3 1, 3) := by decide +kernel
theorem jd_Gr_measure_140 : decode jb_Gr_measure 140 = .ok (.goto (-47), 3) := by decide +kernel
theorem jd_Gr_measure_143 : decode jb_Gr_measure 143 = .ok (.iinc 2 1, 3) := by decide +kernel
theorem jd_Gr_measure_146 : decode jb_Gr_measure 146 = .ok (.goto (-63), 3) := by decide +kernel
theorem jd_Gr_measure_149 : decode jb_Gr_measure 149 = .ok (.iinc 1 1, 3) := by decide +kernel
theorem jd_Gr_measure_152 : decode jb_Gr_measure 152 = .ok (.goto (-79), 3) := by decide +kernel
theorem jd_Gr_measure_155 : decode jb_Gr_measure 155 = .ok (.return_, 1) := by decide +kernel
def f_Gr_measure_93b (F : Nat) (kb93 : Int32 → Int32 → Int32 → j_M → Option (Int32 × j_M)) (kb83 : Int32 → Int32 → j_M → Option (Int32 × j_M)) (x1 : Int32) (x2 : Int32) (x3 : Int32) (I : j_M) : Option (Int32 × j_M) := (if (I 1 0) ≤ x3 then j_let (x2 + 1) (fun v1 => kb83 x1 v1 I) else (if j_ok x2 16 = true then (if j_ok x2 16 = true then (if j_ok x3 16 = true then (if j_ok x2 16 = true then (if j_ok x1 16 = true then (if j_ok x1 16 = true then (if j_ok x3 16 = true then j_let (if ((I (22 + (j_ix x2)) (j_ix x1)) + (I (22 + (j_ix x1)) (j_ix x3))) < (I (22 + (j_ix x2)) (j_ix x3)) then ((I (22 + (j_ix x2)) (j_ix x1)) + (I (22 + (j_ix x1)) (j_ix x3))) else (I (22 + (j_ix x2)) (j_ix x3))) (fun v6 => (if j_ok x3 16 = true then j_let (j_wr I (22 + (j_ix x2)) (j_ix x3) v6) (fun I7 => j_let (x3 + 1) (fun v8 => kb93 x1 x2 v8 I7)) else none)) else none) else none) else none) else none) else none) else none) else none))
def f_Gr_measure_93 (F : Nat) (kb83 : Int32 → Int32 → j_M → Option (Int32 × j_M)) (x1 : Int32) (x2 : Int32) (x3 : Int32) (I : j_M) : Option (Int32 × j_M) := j_it (fun (again : Int32 × Int32 × Int32 × j_M → Option (Int32 × j_M)) (q : Int32 × Int32 × Int32 × j_M) => f_Gr_measure_93b F  (fun x1 x2 x3 I => again (x1, x2, x3, I)) kb83 q.1 q.2.1 q.2.2.1 q.2.2.2) F (x1, x2, x3, I)
def f_Gr_measure_83b (F : Nat) (kb83 : Int32 → Int32 → j_M → Option (Int32 × j_M)) (kb73 : Int32 → j_M → Option (Int32 × j_M)) (x1 : Int32) (x2 : Int32) (I : j_M) : Option (Int32 × j_M) := (if (I 1 0) ≤ x2 then j_let (x1 + 1) (fun v9 => kb73 v9 I) else f_Gr_measure_93 F kb83 x1 x2 0 I)
def f_Gr_measure_83 (F : Nat) (kb73 : Int32 → j_M → Option (Int32 × j_M)) (x1 : Int32) (x2 : Int32) (I : j_M) : Option (Int32 × j_M) := j_it (fun (again : Int32 × Int32 × j_M → Option (Int32 × j_M)) (q : Int32 × Int32 × j_M) => f_Gr_measure_83b F  (fun x1 x2 I => again (x1, x2, I)) kb73 q.1 q.2.1 q.2.2) F (x1, x2, I)
def f_Gr_measure_73b (F : Nat) (kb73 : Int32 → j_M → Option (Int32 × j_M)) (x1 : Int32) (I : j_M) : Option (Int32 × j_M) := (if (I 1 0) ≤ x1 then some (0, I) else f_Gr_measure_83 F kb73 x1 0 I)
def f_Gr_measure_73 (F : Nat)  (x1 : Int32) (I : j_M) : Option (Int32 × j_M) := j_it (fun (again : Int32 × j_M → Option (Int32 × j_M)) (q : Int32 × j_M) => f_Gr_measure_73b F  (fun x1 I => again (x1, I))  q.1 q.2) F (x1, I)
def f_Gr_measure_58 (F : Nat) (kb10 : Int32 → Int32 → j_M → Option (Int32 × j_M)) (x1 : Int32) (x2 : Int32) (s0 : Nat) (s1 : Int32) (s2 : Int32) (I : j_M) : Option (Int32 × j_M) := (if j_ok s1 16 = true then j_let (j_wr I (22 + s0) (j_ix s1) s2) (fun I10 => j_let (x2 + 1) (fun v11 => kb10 x1 v11 I10)) else none)
def f_Gr_measure_40 (F : Nat) (kb10 : Int32 → Int32 → j_M → Option (Int32 × j_M)) (x1 : Int32) (x2 : Int32) (s0 : Int32) (I : j_M) : Option (Int32 × j_M) := (if j_ok x1 16 = true then (if x1 = x2 then f_Gr_measure_58 F kb10 x1 x2 (j_ix x1) x2 0 I else f_Gr_measure_58 F kb10 x1 x2 (j_ix x1) x2 s0 I) else none)
def f_Gr_measure_10b (F : Nat) (kb10 : Int32 → Int32 → j_M → Option (Int32 × j_M)) (kb2 : Int32 → j_M → Option (Int32 × j_M)) (x1 : Int32) (x2 : Int32) (I : j_M) : Option (Int32 × j_M) := (if 16 ≤ x2 then j_let (x1 + 1) (fun v13 => kb2 v13 I) else (if j_ok x1 16 = true then (if j_ok x2 16 = true then (if (I (5 + (j_ix x1)) (j_ix x2)) = 0 then f_Gr_measure_40 F kb10 x1 x2 1000000 I else (if j_ok x1 16 = true then (if j_ok x2 16 = true then f_Gr_measure_40 F kb10 x1 x2 (I (5 + (j_ix x1)) (j_ix x2)) I else none) else none)) else none) else none))
def f_Gr_measure_10 (F : Nat) (kb2 : Int32 → j_M → Option (Int32 × j_M)) (x1 : Int32) (x2 : Int32) (I : j_M) : Option (Int32 × j_M) := j_it (fun (again : Int32 × Int32 × j_M → Option (Int32 × j_M)) (q : Int32 × Int32 × j_M) => f_Gr_measure_10b F  (fun x1 x2 I => again (x1, x2, I)) kb2 q.1 q.2.1 q.2.2) F (x1, x2, I)
def f_Gr_measure_2b (F : Nat) (kb2 : Int32 → j_M → Option (Int32 × j_M)) (x1 : Int32) (I : j_M) : Option (Int32 × j_M) := (if 16 ≤ x1 then f_Gr_measure_73 F 0 I else f_Gr_measure_10 F kb2 x1 0 I)
def f_Gr_measure_2 (F : Nat)  (x1 : Int32) (I : j_M) : Option (Int32 × j_M) := j_it (fun (again : Int32 × j_M → Option (Int32 × j_M)) (q : Int32 × j_M) => f_Gr_measure_2b F  (fun x1 I => again (x1, I))  q.1 q.2) F (x1, I)
def f_Gr_measure (F : Nat)  (I : j_M) : Option (Int32 × j_M) := f_Gr_measure_2 F 0 I
set_option maxRecDepth 100000 in
set_option maxHeartbeats 4000000 in
theorem k_Gr_measure_93b {p : Program} {l : Launch} {e : Env} {R : Room} {s : State} {m : MethodId} {args : Array Value} {below : List Frame} {meth : Method} {c : Code} {g : j_G} {b n : Nat} {P : j_R} {F : Nat} (hF : j_Fx 1 38 P) (hn : 38 ≤ n) (X : j_X p R s m args meth c g b 1 jb_Gr_measure 4 "PleasureGarden$Grounds" none) {kb93 : Int32 → Int32 → Int32 → j_M → Option (Int32 × j_M)} (hkb93 : ∀ (x1 : Int32) (x2 : Int32) (x3 : Int32) (I : j_M) (r : Int32 × j_M), kb93 x1 x2 x3 I = some r → j_W p l e R s m args below meth c 4 g b n 0 0 (j_Qv g b n P below args s r) I P 93 [some (.ref (b + 1)), some (.int x1), some (.int x2), some (.int x3)] []) {kb83 : Int32 → Int32 → j_M → Option (Int32 × j_M)} (hkb83 : ∀ (x1 : Int32) (x2 : Int32) (I : j_M) (r : Int32 × j_M), kb83 x1 x2 I = some r → j_W p l e R s m args below meth c 4 g b n 0 0 (j_Qv g b n P below args s r) I P 83 [some (.ref (b + 1)), some (.int x1), some (.int x2), none] []) {x1 : Int32} {x2 : Int32} {x3 : Int32} {I : j_M} {r : Int32 × j_M}  (h : f_Gr_measure_93b F kb93 kb83 x1 x2 x3 I = some r) : j_W p l e R s m args below meth c 4 g b n 0 0 (j_Qv g b n P below args s r) I P 93 [some (.ref (b + 1)), some (.int x1), some (.int x2), some (.int x3)] [] := by
  unfold f_Gr_measure_93b at h
  refine j_iload_n X jd_Gr_measure_93 rfl rfl ?_
  refine j_aload_n X jd_Gr_measure_94 rfl rfl ?_
  refine j_get X jf_Gr_9 jk_1_0 js_1 (j_lt rfl hn) jd_Gr_measure_95 ?_
  refine j_icmp_ge (tgt := 143) X jd_Gr_measure_98 rfl h (fun h => ?_) (fun h => ?_)
  · obtain ⟨v1, ev1, h⟩ := j_ex h
    refine j_iinc (v := v1) (lv' := [some (.ref (b + 1)), some (.int x1), some (.int v1), some (.int x3)]) X jd_Gr_measure_143 rfl (by rw [ev1]; rfl) (by decide) rfl ?_
    refine j_goto (tgt := 83) X jd_Gr_measure_146 rfl ?_
    refine j_sub [true, true, true, false] (lv' := [some (.ref (b + 1)), some (.int x1), some (.int v1), none]) rfl ?_
    exact hkb83 _ _ _ _ h
  · refine j_aload_n X jd_Gr_measure_101 rfl rfl ?_
    refine j_getr X jf_Gr_28 jk_1_4 js_1 (j_lt rfl hn) (jp_1_4 hF) jd_Gr_measure_102 ?_
    refine j_iload_n X jd_Gr_measure_105 rfl rfl ?_
    refine j_aald X rfl rfl js_21 (j_lt rfl hn) jd_Gr_measure_106 (fun q => ja_21 hF _ (j_ok_lt q)) h (fun hb2 h => ?_)
    refine j_iload_n X jd_Gr_measure_107 rfl rfl ?_
    refine j_aload_n X jd_Gr_measure_108 rfl rfl ?_
    refine j_getr X jf_Gr_28 jk_1_4 js_1 (j_lt rfl hn) (jp_1_4 hF) jd_Gr_measure_109 ?_
    refine j_iload_n X jd_Gr_measure_112 rfl rfl ?_
    refine j_aald X rfl rfl js_21 (j_lt rfl hn) jd_Gr_measure_113 (fun q => ja_21 hF _ (j_ok_lt q)) h (fun hb3 h => ?_)
    refine j_iload_n X jd_Gr_measure_114 rfl rfl ?_
    refine j_iald X (jsp_22 (j_ok_lt hb3)) (j_ltq (j_ok_lt hb3) rfl hn) jd_Gr_measure_115 h (fun _ h => ?_)
    refine j_aload_n X jd_Gr_measure_116 rfl rfl ?_
    refine j_getr X jf_Gr_28 jk_1_4 js_1 (j_lt rfl hn) (jp_1_4 hF) jd_Gr_measure_117 ?_
    refine j_iload_n X jd_Gr_measure_120 rfl rfl ?_
    refine j_aald X rfl rfl js_21 (j_lt rfl hn) jd_Gr_measure_121 (fun q => ja_21 hF _ (j_ok_lt q)) h (fun hb4 h => ?_)
    refine j_iload_n X jd_Gr_measure_122 rfl rfl ?_
    refine j_iald X (jsp_22 (j_ok_lt hb4)) (j_ltq (j_ok_lt hb4) rfl hn) jd_Gr_measure_123 h (fun _ h => ?_)
    refine j_aload_n X jd_Gr_measure_124 rfl rfl ?_
    refine j_getr X jf_Gr_28 jk_1_4 js_1 (j_lt rfl hn) (jp_1_4 hF) jd_Gr_measure_125 ?_
    refine j_iload_n X jd_Gr_measure_128 rfl rfl ?_
    refine j_aald X rfl rfl js_21 (j_lt rfl hn) jd_Gr_measure_129 (fun q => ja_21 hF _ (j_ok_lt q)) h (fun hb5 h => ?_)
    refine j_iload_n X jd_Gr_measure_130 rfl rfl ?_
    refine j_iald X (jsp_22 (j_ok_lt hb5)) (j_ltq (j_ok_lt hb5) rfl hn) jd_Gr_measure_131 h (fun _ h => ?_)
    refine j_iadd X jd_Gr_measure_132 ?_
    refine j_mmin (st := [.int x3, .ref (b + (22 + (j_ix x2)))]) X jlm_Gr_35 (by decide) (Nat.le_of_ble_eq_true rfl) ⟨Nat.zero_le _, Nat.zero_le _⟩ jd_Gr_measure_133 ?_
    refine j_nm h (fun v6 h => ?_)
    refine j_iast X (jsp_22 (j_ok_lt hb2)) (j_ltq (j_ok_lt hb2) rfl hn) jd_Gr_measure_136 h (fun h => ?_)
    refine j_mem h (fun I7 h => ?_)
    obtain ⟨v8, ev8, h⟩ := j_ex h
    refine j_iinc (v := v8) (lv' := [some (.ref (b + 1)), some (.int x1), some (.int x2), some (.int v8)]) X jd_Gr_measure_137 rfl (by rw [ev8]; rfl) (by decide) rfl ?_
    refine j_goto (tgt := 93) X jd_Gr_measure_140 rfl ?_
    exact hkb93 _ _ _ _ _ h
set_option maxRecDepth 100000 in
set_option maxHeartbeats 4000000 in
theorem k_Gr_measure_93 {p : Program} {l : Launch} {e : Env} {R : Room} {s : State} {m : MethodId} {args : Array Value} {below : List Frame} {meth : Method} {c : Code} {g : j_G} {b n : Nat} {P : j_R} {F : Nat} (hF : j_Fx 1 38 P) (hn : 38 ≤ n) (X : j_X p R s m args meth c g b 1 jb_Gr_measure 4 "PleasureGarden$Grounds" none) {kb83 : Int32 → Int32 → j_M → Option (Int32 × j_M)} (hkb83 : ∀ (x1 : Int32) (x2 : Int32) (I : j_M) (r : Int32 × j_M), kb83 x1 x2 I = some r → j_W p l e R s m args below meth c 4 g b n 0 0 (j_Qv g b n P below args s r) I P 83 [some (.ref (b + 1)), some (.int x1), some (.int x2), none] []) {x1 : Int32} {x2 : Int32} {x3 : Int32} {I : j_M} {r : Int32 × j_M} (h : f_Gr_measure_93 F kb83 x1 x2 x3 I = some r) : j_W p l e R s m args below meth c 4 g b n 0 0 (j_Qv g b n P below args s r) I P 93 [some (.ref (b + 1)), some (.int x1), some (.int x2), some (.int x3)] [] := by
  refine j_loop (G := fun (q : Int32 × Int32 × Int32 × j_M) (r : Int32 × j_M) => j_W p l e R s m args below meth c 4 g b n 0 0 (j_Qv g b n P below args s r) q.2.2.2 P 93 [some (.ref (b + 1)), some (.int (q.1)), some (.int (q.2.1)), some (.int (q.2.2.1))] []) ?_ F (x1, x2, x3, I) r h
  intro again hrec0 q r h
  exact k_Gr_measure_93b hF hn X (fun x1 x2 x3 I r h => hrec0 (x1, x2, x3, I) r h) hkb83 h
set_option maxRecDepth 100000 in
set_option maxHeartbeats 4000000 in
theorem k_Gr_measure_83b {p : Program} {l : Launch} {e : Env} {R : Room} {s : State} {m : MethodId} {args : Array Value} {below : List Frame} {meth : Method} {c : Code} {g : j_G} {b n : Nat} {P : j_R} {F : Nat} (hF : j_Fx 1 38 P) (hn : 38 ≤ n) (X : j_X p R s m args meth c g b 1 jb_Gr_measure 4 "PleasureGarden$Grounds" none) {kb83 : Int32 → Int32 → j_M → Option (Int32 × j_M)} (hkb83 : ∀ (x1 : Int32) (x2 : Int32) (I : j_M) (r : Int32 × j_M), kb83 x1 x2 I = some r → j_W p l e R s m args below meth c 4 g b n 0 0 (j_Qv g b n P below args s r) I P 83 [some (.ref (b + 1)), some (.int x1), some (.int x2), none] []) {kb73 : Int32 → j_M → Option (Int32 × j_M)} (hkb73 : ∀ (x1 : Int32) (I : j_M) (r : Int32 × j_M), kb73 x1 I = some r → j_W p l e R s m args below meth c 4 g b n 0 0 (j_Qv g b n P below args s r) I P 73 [some (.ref (b + 1)), some (.int x1), none, none] []) {x1 : Int32} {x2 : Int32} {I : j_M} {r : Int32 × j_M}  (h : f_Gr_measure_83b F kb83 kb73 x1 x2 I = some r) : j_W p l e R s m args below meth c 4 g b n 0 0 (j_Qv g b n P below args s r) I P 83 [some (.ref (b + 1)), some (.int x1), some (.int x2), none] [] := by
  unfold f_Gr_measure_83b at h
  refine j_iload_n X jd_Gr_measure_83 rfl rfl ?_
  refine j_aload_n X jd_Gr_measure_84 rfl rfl ?_
  refine j_get X jf_Gr_9 jk_1_0 js_1 (j_lt rfl hn) jd_Gr_measure_85 ?_
  refine j_icmp_ge (tgt := 149) X jd_Gr_measure_88 rfl h (fun h => ?_) (fun h => ?_)
  · obtain ⟨v9, ev9, h⟩ := j_ex h
    refine j_iinc (v := v9) (lv' := [some (.ref (b + 1)), some (.int v9), some (.int x2), none]) X jd_Gr_measure_149 rfl (by rw [ev9]; rfl) (by decide) rfl ?_
    refine j_goto (tgt := 73) X jd_Gr_measure_152 rfl ?_
    refine j_sub [true, true, false, false] (lv' := [some (.ref (b + 1)), some (.int v9), none, none]) rfl ?_
    exact hkb73 _ _ _ h
  · refine j_iconst (v := 0) X jd_Gr_measure_91 (by decide) ?_
    refine j_istore_n (lv' := [some (.ref (b + 1)), some (.int x1), some (.int x2), some (.int 0)]) X jd_Gr_measure_92 rfl (by decide) rfl ?_
    exact k_Gr_measure_93 hF hn X hkb83 h
set_option maxRecDepth 100000 in
set_option maxHeartbeats 4000000 in
theorem k_Gr_measure_83 {p : Program} {l : Launch} {e : Env} {R : Room} {s : State} {m : MethodId} {args : Array Value} {below : List Frame} {meth : Method} {c : Code} {g : j_G} {b n : Nat} {P : j_R} {F : Nat} (hF : j_Fx 1 38 P) (hn : 38 ≤ n) (X : j_X p R s m args meth c g b 1 jb_Gr_measure 4 "PleasureGarden$Grounds" none) {kb73 : Int32 → j_M → Option (Int32 × j_M)} (hkb73 : ∀ (x1 : Int32) (I : j_M) (r : Int32 × j_M), kb73 x1 I = some r → j_W p l e R s m args below meth c 4 g b n 0 0 (j_Qv g b n P below args s r) I P 73 [some (.ref (b + 1)), some (.int x1), none, none] []) {x1 : Int32} {x2 : Int32} {I : j_M} {r : Int32 × j_M} (h : f_Gr_measure_83 F kb73 x1 x2 I = some r) : j_W p l e R s m args below meth c 4 g b n 0 0 (j_Qv g b n P below args s r) I P 83 [some (.ref (b + 1)), some (.int x1), some (.int x2), none] [] := by
  refine j_loop (G := fun (q : Int32 × Int32 × j_M) (r : Int32 × j_M) => j_W p l e R s m args below meth c 4 g b n 0 0 (j_Qv g b n P below args s r) q.2.2 P 83 [some (.ref (b + 1)), some (.int (q.1)), some (.int (q.2.1)), none] []) ?_ F (x1, x2, I) r h
  intro again hrec0 q r h
  exact k_Gr_measure_83b hF hn X (fun x1 x2 I r h => hrec0 (x1, x2, I) r h) hkb73 h
set_option maxRecDepth 100000 in
set_option maxHeartbeats 4000000 in
theorem k_Gr_measure_73b {p : Program} {l : Launch} {e : Env} {R : Room} {s : State} {m : MethodId} {args : Array Value} {below : List Frame} {meth : Method} {c : Code} {g : j_G} {b n : Nat} {P : j_R} {F : Nat} (hF : j_Fx 1 38 P) (hn : 38 ≤ n) (X : j_X p R s m args meth c g b 1 jb_Gr_measure 4 "PleasureGarden$Grounds" none) {kb73 : Int32 → j_M → Option (Int32 × j_M)} (hkb73 : ∀ (x1 : Int32) (I : j_M) (r : Int32 × j_M), kb73 x1 I = some r → j_W p l e R s m args below meth c 4 g b n 0 0 (j_Qv g b n P below args s r) I P 73 [some (.ref (b + 1)), some (.int x1), none, none] []) {x1 : Int32} {I : j_M} {r : Int32 × j_M}  (h : f_Gr_measure_73b F kb73 x1 I = some r) : j_W p l e R s m args below meth c 4 g b n 0 0 (j_Qv g b n P below args s r) I P 73 [some (.ref (b + 1)), some (.int x1), none, none] [] := by
  unfold f_Gr_measure_73b at h
  refine j_iload_n X jd_Gr_measure_73 rfl rfl ?_
  refine j_aload_n X jd_Gr_measure_74 rfl rfl ?_
  refine j_get X jf_Gr_9 jk_1_0 js_1 (j_lt rfl hn) jd_Gr_measure_75 ?_
  refine j_icmp_ge (tgt := 155) X jd_Gr_measure_78 rfl h (fun h => ?_) (fun h => ?_)
  · exact j_vret X rfl jd_Gr_measure_155 h
  · refine j_iconst (v := 0) X jd_Gr_measure_81 (by decide) ?_
    refine j_istore_n (lv' := [some (.ref (b + 1)), some (.int x1), some (.int 0), none]) X jd_Gr_measure_82 rfl (by decide) rfl ?_
    exact k_Gr_measure_83 hF hn X hkb73 h
set_option maxRecDepth 100000 in
set_option maxHeartbeats 4000000 in
theorem k_Gr_measure_73 {p : Program} {l : Launch} {e : Env} {R : Room} {s : State} {m : MethodId} {args : Array Value} {below : List Frame} {meth : Method} {c : Code} {g : j_G} {b n : Nat} {P : j_R} {F : Nat} (hF : j_Fx 1 38 P) (hn : 38 ≤ n) (X : j_X p R s m args meth c g b 1 jb_Gr_measure 4 "PleasureGarden$Grounds" none)  {x1 : Int32} {I : j_M} {r : Int32 × j_M} (h : f_Gr_measure_73 F x1 I = some r) : j_W p l e R s m args below meth c 4 g b n 0 0 (j_Qv g b n P below args s r) I P 73 [some (.ref (b + 1)), some (.int x1), none, none] [] := by
  refine j_loop (G := fun (q : Int32 × j_M) (r : Int32 × j_M) => j_W p l e R s m args below meth c 4 g b n 0 0 (j_Qv g b n P below args s r) q.2 P 73 [some (.ref (b + 1)), some (.int (q.1)), none, none] []) ?_ F (x1, I) r h
  intro again hrec0 q r h
  exact k_Gr_measure_73b hF hn X (fun x1 I r h => hrec0 (x1, I) r h)  h
set_option maxRecDepth 100000 in
set_option maxHeartbeats 4000000 in
theorem k_Gr_measure_58 {p : Program} {l : Launch} {e : Env} {R : Room} {s : State} {m : MethodId} {args : Array Value} {below : List Frame} {meth : Method} {c : Code} {g : j_G} {b n : Nat} {P : j_R} {F : Nat} (hF : j_Fx 1 38 P) (hn : 38 ≤ n) (X : j_X p R s m args meth c g b 1 jb_Gr_measure 4 "PleasureGarden$Grounds" none) {kb10 : Int32 → Int32 → j_M → Option (Int32 × j_M)} (hkb10 : ∀ (x1 : Int32) (x2 : Int32) (I : j_M) (r : Int32 × j_M), kb10 x1 x2 I = some r → j_W p l e R s m args below meth c 4 g b n 0 0 (j_Qv g b n P below args s r) I P 10 [some (.ref (b + 1)), some (.int x1), some (.int x2), none] []) {x1 : Int32} {x2 : Int32} {s0 : Nat} {s1 : Int32} {s2 : Int32} {I : j_M} {r : Int32 × j_M} (hs0 : s0 < 16) (h : f_Gr_measure_58 F kb10 x1 x2 s0 s1 s2 I = some r) : j_W p l e R s m args below meth c 4 g b n 0 0 (j_Qv g b n P below args s r) I P 58 [some (.ref (b + 1)), some (.int x1), some (.int x2), none] [.int s2, .int s1, .ref (b + (22 + s0))] := by
  unfold f_Gr_measure_58 at h
  refine j_iast X (jsp_22 hs0) (j_ltq hs0 rfl hn) jd_Gr_measure_58 h (fun h => ?_)
  refine j_mem h (fun I10 h => ?_)
  obtain ⟨v11, ev11, h⟩ := j_ex h
  refine j_iinc (v := v11) (lv' := [some (.ref (b + 1)), some (.int x1), some (.int v11), none]) X jd_Gr_measure_59 rfl (by rw [ev11]; rfl) (by decide) rfl ?_
  refine j_goto (tgt := 10) X jd_Gr_measure_62 rfl ?_
  exact hkb10 _ _ _ _ h
set_option maxRecDepth 100000 in
set_option maxHeartbeats 4000000 in
theorem k_Gr_measure_40 {p : Program} {l : Launch} {e : Env} {R : Room} {s : State} {m : MethodId} {args : Array Value} {below : List Frame} {meth : Method} {c : Code} {g : j_G} {b n : Nat} {P : j_R} {F : Nat} (hF : j_Fx 1 38 P) (hn : 38 ≤ n) (X : j_X p R s m args meth c g b 1 jb_Gr_measure 4 "PleasureGarden$Grounds" none) {kb10 : Int32 → Int32 → j_M → Option (Int32 × j_M)} (hkb10 : ∀ (x1 : Int32) (x2 : Int32) (I : j_M) (r : Int32 × j_M), kb10 x1 x2 I = some r → j_W p l e R s m args below meth c 4 g b n 0 0 (j_Qv g b n P below args s r) I P 10 [some (.ref (b + 1)), some (.int x1), some (.int x2), none] []) {x1 : Int32} {x2 : Int32} {s0 : Int32} {I : j_M} {r : Int32 × j_M}  (h : f_Gr_measure_40 F kb10 x1 x2 s0 I = some r) : j_W p l e R s m args below meth c 4 g b n 0 0 (j_Qv g b n P below args s r) I P 40 [some (.ref (b + 1)), some (.int x1), some (.int x2), none] [.int s0] := by
  unfold f_Gr_measure_40 at h
  refine j_istore_n (lv' := [some (.ref (b + 1)), some (.int x1), some (.int x2), some (.int s0)]) X jd_Gr_measure_40 rfl (by decide) rfl ?_
  refine j_aload_n X jd_Gr_measure_41 rfl rfl ?_
  refine j_getr X jf_Gr_28 jk_1_4 js_1 (j_lt rfl hn) (jp_1_4 hF) jd_Gr_measure_42 ?_
  refine j_iload_n X jd_Gr_measure_45 rfl rfl ?_
  refine j_aald X rfl rfl js_21 (j_lt rfl hn) jd_Gr_measure_46 (fun q => ja_21 hF _ (j_ok_lt q)) h (fun hb12 h => ?_)
  refine j_iload_n X jd_Gr_measure_47 rfl rfl ?_
  refine j_iload_n X jd_Gr_measure_48 rfl rfl ?_
  refine j_iload_n X jd_Gr_measure_49 rfl rfl ?_
  refine j_icmp_ne (tgt := 57) X jd_Gr_measure_50 rfl h (fun h => ?_) (fun h => ?_)
  · refine j_iconst (v := 0) X jd_Gr_measure_53 (by decide) ?_
    refine j_goto (tgt := 58) X jd_Gr_measure_54 rfl ?_
    refine j_sub [true, true, true, false] (lv' := [some (.ref (b + 1)), some (.int x1), some (.int x2), none]) rfl ?_
    exact k_Gr_measure_58 hF hn X hkb10 (j_ok_lt hb12) h
  · refine j_iload_n X jd_Gr_measure_57 rfl rfl ?_
    refine j_sub [true, true, true, false] (lv' := [some (.ref (b + 1)), some (.int x1), some (.int x2), none]) rfl ?_
    exact k_Gr_measure_58 hF hn X hkb10 (j_ok_lt hb12) h
set_option maxRecDepth 100000 in
set_option maxHeartbeats 4000000 in
theorem k_Gr_measure_10b {p : Program} {l : Launch} {e : Env} {R : Room} {s : State} {m : MethodId} {args : Array Value} {below : List Frame} {meth : Method} {c : Code} {g : j_G} {b n : Nat} {P : j_R} {F : Nat} (hF : j_Fx 1 38 P) (hn : 38 ≤ n) (X : j_X p R s m args meth c g b 1 jb_Gr_measure 4 "PleasureGarden$Grounds" none) {kb10 : Int32 → Int32 → j_M → Option (Int32 × j_M)} (hkb10 : ∀ (x1 : Int32) (x2 : Int32) (I : j_M) (r : Int32 × j_M), kb10 x1 x2 I = some r → j_W p l e R s m args below meth c 4 g b n 0 0 (j_Qv g b n P below args s r) I P 10 [some (.ref (b + 1)), some (.int x1), some (.int x2), none] []) {kb2 : Int32 → j_M → Option (Int32 × j_M)} (hkb2 : ∀ (x1 : Int32) (I : j_M) (r : Int32 × j_M), kb2 x1 I = some r → j_W p l e R s m args below meth c 4 g b n 0 0 (j_Qv g b n P below args s r) I P 2 [some (.ref (b + 1)), some (.int x1), none, none] []) {x1 : Int32} {x2 : Int32} {I : j_M} {r : Int32 × j_M}  (h : f_Gr_measure_10b F kb10 kb2 x1 x2 I = some r) : j_W p l e R s m args below meth c 4 g b n 0 0 (j_Qv g b n P below args s r) I P 10 [some (.ref (b + 1)), some (.int x1), some (.int x2), none] [] := by
  unfold f_Gr_measure_10b at h
  refine j_iload_n X jd_Gr_measure_10 rfl rfl ?_
  refine j_bipush (v := 16) X jd_Gr_measure_11 (by decide) ?_
  refine j_icmp_ge (tgt := 65) X jd_Gr_measure_13 rfl h (fun h => ?_) (fun h => ?_)
  · obtain ⟨v13, ev13, h⟩ := j_ex h
    refine j_iinc (v := v13) (lv' := [some (.ref (b + 1)), some (.int v13), some (.int x2), none]) X jd_Gr_measure_65 rfl (by rw [ev13]; rfl) (by decide) rfl ?_
    refine j_goto (tgt := 2) X jd_Gr_measure_68 rfl ?_
    refine j_sub [true, true, false, false] (lv' := [some (.ref (b + 1)), some (.int v13), none, none]) rfl ?_
    exact hkb2 _ _ _ h
  · refine j_aload_n X jd_Gr_measure_16 rfl rfl ?_
    refine j_getr X jf_Gr_25 jk_1_3 js_1 (j_lt rfl hn) (jp_1_3 hF) jd_Gr_measure_17 ?_
    refine j_iload_n X jd_Gr_measure_20 rfl rfl ?_
    refine j_aald X rfl rfl js_4 (j_lt rfl hn) jd_Gr_measure_21 (fun q => ja_4 hF _ (j_ok_lt q)) h (fun hb14 h => ?_)
    refine j_iload_n X jd_Gr_measure_22 rfl rfl ?_
    refine j_iald X (jsp_5 (j_ok_lt hb14)) (j_ltq (j_ok_lt hb14) rfl hn) jd_Gr_measure_23 h (fun _ h => ?_)
    refine j_if_ne (tgt := 32) X jd_Gr_measure_24 rfl h (fun h => ?_) (fun h => ?_)
    · refine j_ldc (v := 1000000) X jlc_Gr_34 jd_Gr_measure_27 ?_
      refine j_goto (tgt := 40) X jd_Gr_measure_29 rfl ?_
      exact k_Gr_measure_40 hF hn X hkb10 h
    · refine j_aload_n X jd_Gr_measure_32 rfl rfl ?_
      refine j_getr X jf_Gr_25 jk_1_3 js_1 (j_lt rfl hn) (jp_1_3 hF) jd_Gr_measure_33 ?_
      refine j_iload_n X jd_Gr_measure_36 rfl rfl ?_
      refine j_aald X rfl rfl js_4 (j_lt rfl hn) jd_Gr_measure_37 (fun q => ja_4 hF _ (j_ok_lt q)) h (fun hb15 h => ?_)
      refine j_iload_n X jd_Gr_measure_38 rfl rfl ?_
      refine j_iald X (jsp_5 (j_ok_lt hb15)) (j_ltq (j_ok_lt hb15) rfl hn) jd_Gr_measure_39 h (fun _ h => ?_)
      exact k_Gr_measure_40 hF hn X hkb10 h
set_option maxRecDepth 100000 in
set_option maxHeartbeats 4000000 in
theorem k_Gr_measure_10 {p : Program} {l : Launch} {e : Env} {R : Room} {s : State} {m : MethodId} {args : Array Value} {below : List Frame} {meth : Method} {c : Code} {g : j_G} {b n : Nat} {P : j_R} {F : Nat} (hF : j_Fx 1 38 P) (hn : 38 ≤ n) (X : j_X p R s m args meth c g b 1 jb_Gr_measure 4 "PleasureGarden$Grounds" none) {kb2 : Int32 → j_M → Option (Int32 × j_M)} (hkb2 : ∀ (x1 : Int32) (I : j_M) (r : Int32 × j_M), kb2 x1 I = some r → j_W p l e R s m args below meth c 4 g b n 0 0 (j_Qv g b n P below args s r) I P 2 [some (.ref (b + 1)), some (.int x1), none, none] []) {x1 : Int32} {x2 : Int32} {I : j_M} {r : Int32 × j_M} (h : f_Gr_measure_10 F kb2 x1 x2 I = some r) : j_W p l e R s m args below meth c 4 g b n 0 0 (j_Qv g b n P below args s r) I P 10 [some (.ref (b + 1)), some (.int x1), some (.int x2), none] [] := by
  refine j_loop (G := fun (q : Int32 × Int32 × j_M) (r : Int32 × j_M) => j_W p l e R s m args below meth c 4 g b n 0 0 (j_Qv g b n P below args s r) q.2.2 P 10 [some (.ref (b + 1)), some (.int (q.1)), some (.int (q.2.1)), none] []) ?_ F (x1, x2, I) r h
  intro again hrec0 q r h
  exact k_Gr_measure_10b hF hn X (fun x1 x2 I r h => hrec0 (x1, x2, I) r h) hkb2 h
set_option maxRecDepth 100000 in
set_option maxHeartbeats 4000000 in
theorem k_Gr_measure_2b {p : Program} {l : Launch} {e : Env} {R : Room} {s : State} {m : MethodId} {args : Array Value} {below : List Frame} {meth : Method} {c : Code} {g : j_G} {b n : Nat} {P : j_R} {F : Nat} (hF : j_Fx 1 38 P) (hn : 38 ≤ n) (X : j_X p R s m args meth c g b 1 jb_Gr_measure 4 "PleasureGarden$Grounds" none) {kb2 : Int32 → j_M → Option (Int32 × j_M)} (hkb2 : ∀ (x1 : Int32) (I : j_M) (r : Int32 × j_M), kb2 x1 I = some r → j_W p l e R s m args below meth c 4 g b n 0 0 (j_Qv g b n P below args s r) I P 2 [some (.ref (b + 1)), some (.int x1), none, none] []) {x1 : Int32} {I : j_M} {r : Int32 × j_M}  (h : f_Gr_measure_2b F kb2 x1 I = some r) : j_W p l e R s m args below meth c 4 g b n 0 0 (j_Qv g b n P below args s r) I P 2 [some (.ref (b + 1)), some (.int x1), none, none] [] := by
  unfold f_Gr_measure_2b at h
  refine j_iload_n X jd_Gr_measure_2 rfl rfl ?_
  refine j_bipush (v := 16) X jd_Gr_measure_3 (by decide) ?_
  refine j_icmp_ge (tgt := 71) X jd_Gr_measure_5 rfl h (fun h => ?_) (fun h => ?_)
  · refine j_iconst (v := 0) X jd_Gr_measure_71 (by decide) ?_
    refine j_istore_n (lv' := [some (.ref (b + 1)), some (.int 0), none, none]) X jd_Gr_measure_72 rfl (by decide) rfl ?_
    exact k_Gr_measure_73 hF hn X h
  · refine j_iconst (v := 0) X jd_Gr_measure_8 (by decide) ?_
    refine j_istore_n (lv' := [some (.ref (b + 1)), some (.int x1), some (.int 0), none]) X jd_Gr_measure_9 rfl (by decide) rfl ?_
    exact k_Gr_measure_10 hF hn X hkb2 h
set_option maxRecDepth 100000 in
set_option maxHeartbeats 4000000 in
theorem k_Gr_measure_2 {p : Program} {l : Launch} {e : Env} {R : Room} {s : State} {m : MethodId} {args : Array Value} {below : List Frame} {meth : Method} {c : Code} {g : j_G} {b n : Nat} {P : j_R} {F : Nat} (hF : j_Fx 1 38 P) (hn : 38 ≤ n) (X : j_X p R s m args meth c g b 1 jb_Gr_measure 4 "PleasureGarden$Grounds" none)  {x1 : Int32} {I : j_M} {r : Int32 × j_M} (h : f_Gr_measure_2 F x1 I = some r) : j_W p l e R s m args below meth c 4 g b n 0 0 (j_Qv g b n P below args s r) I P 2 [some (.ref (b + 1)), some (.int x1), none, none] [] := by
  refine j_loop (G := fun (q : Int32 × j_M) (r : Int32 × j_M) => j_W p l e R s m args below meth c 4 g b n 0 0 (j_Qv g b n P below args s r) q.2 P 2 [some (.ref (b + 1)), some (.int (q.1)), none, none] []) ?_ F (x1, I) r h
  intro again hrec0 q r h
  exact k_Gr_measure_2b hF hn X (fun x1 I r h => hrec0 (x1, I) r h)  h
set_option maxRecDepth 100000 in
set_option maxHeartbeats 4000000 in
theorem k_Gr_measure {l : Launch} {g : j_G} {b n : Nat} {P : j_R} {F : Nat} (hF : j_Fx 1 38 P) (hn : 38 ≤ n)  {I : j_M} {r : Int32 × j_M}  (h : f_Gr_measure F I = some r) : j_Met l g b n P 1 jy_Gr_measure jb_Gr_measure 4 none [.ref (b + 1)] I r.2 none := by
  unfold f_Gr_measure at h
  refine j_enter (plainFor_of_name (by decide)) (Nat.le_of_ble_eq_true rfl) [some (.ref (b + 1)), none, none, none] rfl ?_
  intro p e R s m args below meth c X0 hnm hRc hRs
  have X : j_X p R s m args meth c g b 1 jb_Gr_measure 4 "PleasureGarden$Grounds" none := X0
  clear X0
  refine j_iconst (v := 0) X jd_Gr_measure_0 (by decide) ?_
  refine j_istore_n (lv' := [some (.ref (b + 1)), some (.int 0), none, none]) X jd_Gr_measure_1 rfl (by decide) rfl ?_
  exact k_Gr_measure_2 hF hn X h
-- PleasureGarden$Grounds.minutesBetween(II)I
theorem jd_Gr_minutesBetween_0 : decode jb_Gr_minutesBetween 0 = .ok (.aload_n 0, 1) := by decide +kernel
theorem jd_Gr_minutesBetween_1 : decode jb_Gr_minutesBetween 1 = .ok (.iload_n 1, 1) := by decide +kernel
theorem jd_Gr_minutesBetween_2 : decode jb_Gr_minutesBetween 2 = .ok (.invokevirtual 41, 3) := by decide +kernel
theorem jd_Gr_minutesBetween_5 : decode jb_Gr_minutesBetween 5 = .ok (.ifCond .eq 22, 3) := by decide +kernel
theorem jd_Gr_minutesBetween_8 : decode jb_Gr_minutesBetween 8 = .ok (.aload_n 0, 1) := by decide +kernel
theorem jd_Gr_minutesBetween_9 : decode jb_Gr_minutesBetween 9 = .ok (.iload_n 2, 1) := by decide +kernel
theorem jd_Gr_minutesBetween_10 : decode jb_Gr_minutesBetween 10 = .ok (.invokevirtual 41, 3) := by decide +kernel
theorem jd_Gr_minutesBetween_13 : decode jb_Gr_minutesBetween 13 = .ok (.ifCond .eq 14, 3) := by decide +kernel
theorem jd_Gr_minutesBetween_16 : decode jb_Gr_minutesBetween 16 = .ok (.aload_n 0, 1) := by decide +kernel
theorem jd_Gr_minutesBetween_17 : decode jb_Gr_minutesBetween 17 = .ok (.getfield 28, 3) := by decide +kernel
theorem jd_Gr_minutesBetween_20 : decode jb_Gr_minutesBetween 20 = .ok (.iload_n 1, 1) := by decide +kernel
theorem jd_Gr_minutesBetween_21 : decode jb_Gr_minutesBetween 21 = .ok (.aaload, 1) := by decide +kernel
theorem jd_Gr_minutesBetween_22 : decode jb_Gr_minutesBetween 22 = .ok (.iload_n 2, 1) := by decide +kernel
theorem jd_Gr_minutesBetween_23 : decode jb_Gr_minutesBetween 23 = .ok (.iaload, 1) := by decide +kernel
theorem jd_Gr_minutesBetween_24 : decode jb_Gr_minutesBetween 24 = .ok (.goto 5, 3) := by decide +kernel
theorem jd_Gr_minutesBetween_27 : decode jb_Gr_minutesBetween 27 = .ok (.ldc 34, 2) := by decide +kernel
theorem jd_Gr_minutesBetween_29 : decode jb_Gr_minutesBetween 29 = .ok (.ireturn, 1) := by decide +kernel
def f_Gr_minutesBetween (F : Nat) (x1 : Int32) (x2 : Int32) (I : j_M) : Option (Int32 × j_M) := j_bd (f_Gr_has F x1 I) (fun v1 I2 => (if v1 = 0 then some (1000000, I2) else j_bd (f_Gr_has F x2 I2) (fun v3 I4 => (if v3 = 0 then some (1000000, I4) else (if j_ok x1 16 = true then (if j_ok x2 16 = true then some (I4 (22 + (j_ix x1)) (j_ix x2), I4) else none) else none)))))
set_option maxRecDepth 100000 in
set_option maxHeartbeats 4000000 in
theorem k_Gr_minutesBetween {l : Launch} {g : j_G} {b n : Nat} {P : j_R} {F : Nat} (hF : j_Fx 1 38 P) (hn : 38 ≤ n) {x1 : Int32} {x2 : Int32} {I : j_M} {r : Int32 × j_M}  (h : f_Gr_minutesBetween F x1 x2 I = some r) : j_Met l g b n P 1 jy_Gr_minutesBetween jb_Gr_minutesBetween 3 (some .int) [.ref (b + 1), .int x1, .int x2] I r.2 (some (.int r.1)) := by
  unfold f_Gr_minutesBetween at h
  refine j_enter (plainFor_of_name (by decide)) (Nat.le_of_ble_eq_true rfl) [some (.ref (b + 1)), some (.int x1), some (.int x2)] rfl ?_
  intro p e R s m args below meth c X0 hnm hRc hRs
  have X : j_X p R s m args meth c g b 1 jb_Gr_minutesBetween 3 "PleasureGarden$Grounds" (some .int) := X0
  clear X0
  refine j_aload_n X jd_Gr_minutesBetween_0 rfl rfl ?_
  refine j_iload_n X jd_Gr_minutesBetween_1 rfl rfl ?_
  refine j_callVi (As := [.int x1]) (st := []) (c0 := 1) X h jc_Gr js_1 (j_lt rfl hn) ⟨jqc_Gr_has, jqi_Gr_has, jqv_Gr_has, jqn_Gr⟩ jlm_Gr_41 jh_Gr_has rfl (by decide) (by decide) (Nat.le_of_ble_eq_true rfl) ⟨Nat.zero_le _, Nat.zero_le _⟩ (fun v0 I0 h => k_Gr_has (r := (v0, I0)) hF hn h) jd_Gr_minutesBetween_2 rfl (fun v1 I2 h => ?_)
  refine j_if_eq (tgt := 27) X jd_Gr_minutesBetween_5 rfl h (fun h => ?_) (fun h => ?_)
  · refine j_ldc (v := 1000000) X jlc_Gr_34 jd_Gr_minutesBetween_27 ?_
    exact j_iret X rfl jd_Gr_minutesBetween_29 h
  · refine j_aload_n X jd_Gr_minutesBetween_8 rfl rfl ?_
    refine j_iload_n X jd_Gr_minutesBetween_9 rfl rfl ?_
    refine j_callVi (As := [.int x2]) (st := []) (c0 := 1) X h jc_Gr js_1 (j_lt rfl hn) ⟨jqc_Gr_has, jqi_Gr_has, jqv_Gr_has, jqn_Gr⟩ jlm_Gr_41 jh_Gr_has rfl (by decide) (by decide) (Nat.le_of_ble_eq_true rfl) ⟨Nat.zero_le _, Nat.zero_le _⟩ (fun v0 I0 h => k_Gr_has (r := (v0, I0)) hF hn h) jd_Gr_minutesBetween_10 rfl (fun v3 I4 h => ?_)
    refine j_if_eq (tgt := 27) X jd_Gr_minutesBetween_13 rfl h (fun h => ?_) (fun h => ?_)
    · refine j_ldc (v := 1000000) X jlc_Gr_34 jd_Gr_minutesBetween_27 ?_
      exact j_iret X rfl jd_Gr_minutesBetween_29 h
    · refine j_aload_n X jd_Gr_minutesBetween_16 rfl rfl ?_
      refine j_getr X jf_Gr_28 jk_1_4 js_1 (j_lt rfl hn) (jp_1_4 hF) jd_Gr_minutesBetween_17 ?_
      refine j_iload_n X jd_Gr_minutesBetween_20 rfl rfl ?_
      refine j_aald X rfl rfl js_21 (j_lt rfl hn) jd_Gr_minutesBetween_21 (fun q => ja_21 hF _ (j_ok_lt q)) h (fun hb5 h => ?_)
      refine j_iload_n X jd_Gr_minutesBetween_22 rfl rfl ?_
      refine j_iald X (jsp_22 (j_ok_lt hb5)) (j_ltq (j_ok_lt hb5) rfl hn) jd_Gr_minutesBetween_23 h (fun _ h => ?_)
      refine j_goto (tgt := 29) X jd_Gr_minutesBetween_24 rfl ?_
      exact j_iret X rfl jd_Gr_minutesBetween_29 h
-- PleasureGarden$Grounds.isOpen(I)Z
theorem jd_Gr_isOpen_0 : decode jb_Gr_isOpen 0 = .ok (.aload_n 0, 1) := by decide +kernel
theorem jd_Gr_isOpen_1 : decode jb_Gr_isOpen 1 = .ok (.iload_n 1, 1) := by decide +kernel
theorem jd_Gr_isOpen_2 : decode jb_Gr_isOpen 2 = .ok (.invokevirtual 41, 3) := by decide +kernel
theorem jd_Gr_isOpen_5 : decode jb_Gr_isOpen 5 = .ok (.ifCond .eq 16, 3) := by decide +kernel
theorem jd_Gr_isOpen_8 : decode jb_Gr_isOpen 8 = .ok (.aload_n 0, 1) := by decide +kernel
theorem jd_Gr_isOpen_9 : decode jb_Gr_isOpen 9 = .ok (.getfield 19, 3) := by decide +kernel
theorem jd_Gr_isOpen_12 : decode jb_Gr_isOpen 12 = .ok (.iload_n 1, 1) := by decide +kernel
theorem jd_Gr_isOpen_13 : decode jb_Gr_isOpen 13 = .ok (.baload, 1) := by decide +kernel
theorem jd_Gr_isOpen_14 : decode jb_Gr_isOpen 14 = .ok (.ifCond .ne 7, 3) := by decide +kernel
theorem jd_Gr_isOpen_17 : decode jb_Gr_isOpen 17 = .ok (.iconst 1, 1) := by decide +kernel
theorem jd_Gr_isOpen_18 : decode jb_Gr_isOpen 18 = .ok (.goto 4, 3) := by decide +kernel
theorem jd_Gr_isOpen_21 : decode jb_Gr_isOpen 21 = .ok (.iconst 0, 1) := by decide +kernel
theorem jd_Gr_isOpen_22 : decode jb_Gr_isOpen 22 = .ok (.ireturn, 1) := by decide +kernel
def f_Gr_isOpen (F : Nat) (x1 : Int32) (I : j_M) : Option (Int32 × j_M) := j_bd (f_Gr_has F x1 I) (fun v1 I2 => (if v1 = 0 then some (0, I2) else (if j_ok x1 16 = true then (if (I2 3 (j_ix x1)) = 0 then some (1, I2) else some (0, I2)) else none)))
set_option maxRecDepth 100000 in
set_option maxHeartbeats 4000000 in
theorem k_Gr_isOpen {l : Launch} {g : j_G} {b n : Nat} {P : j_R} {F : Nat} (hF : j_Fx 1 38 P) (hn : 38 ≤ n) {x1 : Int32} {I : j_M} {r : Int32 × j_M}  (h : f_Gr_isOpen F x1 I = some r) : j_Met l g b n P 1 jy_Gr_isOpen jb_Gr_isOpen 2 (some .boolean) [.ref (b + 1), .int x1] I r.2 (some (.int r.1)) := by
  unfold f_Gr_isOpen at h
  refine j_enter (plainFor_of_name (by decide)) (Nat.le_of_ble_eq_true rfl) [some (.ref (b + 1)), some (.int x1)] rfl ?_
  intro p e R s m args below meth c X0 hnm hRc hRs
  have X : j_X p R s m args meth c g b 1 jb_Gr_isOpen 2 "PleasureGarden$Grounds" (some .boolean) := X0
  clear X0
  refine j_aload_n X jd_Gr_isOpen_0 rfl rfl ?_
  refine j_iload_n X jd_Gr_isOpen_1 rfl rfl ?_
  refine j_callVi (As := [.int x1]) (st := []) (c0 := 1) X h jc_Gr js_1 (j_lt rfl hn) ⟨jqc_Gr_has, jqi_Gr_has, jqv_Gr_has, jqn_Gr⟩ jlm_Gr_41 jh_Gr_has rfl (by decide) (by decide) (Nat.le_of_ble_eq_true rfl) ⟨Nat.zero_le _, Nat.zero_le _⟩ (fun v0 I0 h => k_Gr_has (r := (v0, I0)) hF hn h) jd_Gr_isOpen_2 rfl (fun v1 I2 h => ?_)
  refine j_if_eq (tgt := 21) X jd_Gr_isOpen_5 rfl h (fun h => ?_) (fun h => ?_)
  · refine j_iconst (v := 0) X jd_Gr_isOpen_21 (by decide) ?_
    exact j_zret X rfl (by decide) jd_Gr_isOpen_22 h
  · refine j_aload_n X jd_Gr_isOpen_8 rfl rfl ?_
    refine j_getr X jf_Gr_19 jk_1_2 js_1 (j_lt rfl hn) (jp_1_2 hF) jd_Gr_isOpen_9 ?_
    refine j_iload_n X jd_Gr_isOpen_12 rfl rfl ?_
    refine j_zald X js_3 (j_lt rfl hn) jd_Gr_isOpen_13 h (fun _ h => ?_)
    refine j_if_ne (tgt := 21) X jd_Gr_isOpen_14 rfl h (fun h => ?_) (fun h => ?_)
    · refine j_iconst (v := 1) X jd_Gr_isOpen_17 (by decide) ?_
      refine j_goto (tgt := 22) X jd_Gr_isOpen_18 rfl ?_
      exact j_zret X rfl (by decide) jd_Gr_isOpen_22 h
    · refine j_iconst (v := 0) X jd_Gr_isOpen_21 (by decide) ?_
      exact j_zret X rfl (by decide) jd_Gr_isOpen_22 h
-- PleasureGarden$Grounds.setWalk(III)I
theorem jd_Gr_setWalk_0 : decode jb_Gr_setWalk 0 = .ok (.aload_n 0, 1) := by decide +kernel
theorem jd_Gr_setWalk_1 : decode jb_Gr_setWalk 1 = .ok (.getfield 25, 3) := by decide +kernel
theorem jd_Gr_setWalk_4 : decode jb_Gr_setWalk 4 = .ok (.iload_n 1, 1) := by decide +kernel
theorem jd_Gr_setWalk_5 : decode jb_Gr_setWalk 5 = .ok (.aaload, 1) := by decide +kernel
theorem jd_Gr_setWalk_6 : decode jb_Gr_setWalk 6 = .ok (.iload_n 2, 1) := by decide +kernel
theorem jd_Gr_setWalk_7 : decode jb_Gr_setWalk 7 = .ok (.iaload, 1) := by decide +kernel
theorem jd_Gr_setWalk_8 : decode jb_Gr_setWalk 8 = .ok (.istore 4, 2) := by decide +kernel
theorem jd_Gr_setWalk_10 : decode jb_Gr_setWalk 10 = .ok (.aload_n 0, 1) := by decide +kernel
theorem jd_Gr_setWalk_11 : decode jb_Gr_setWalk 11 = .ok (.getfield 25, 3) := by decide +kernel
theorem jd_Gr_setWalk_14 : decode jb_Gr_setWalk 14 = .ok (.iload_n 1, 1) := by decide +kernel
theorem jd_Gr_setWalk_15 : decode jb_Gr_setWalk 15 = .ok (.aaload, 1) := by decide +kernel
theorem jd_Gr_setWalk_16 : decode jb_Gr_setWalk 16 = .ok (.iload_n 2, 1) := by decide +kernel
theorem jd_Gr_setWalk_17 : decode jb_Gr_setWalk 17 = .ok (.iload_n 3, 1) := by decide +kernel
theorem jd_Gr_setWalk_18 : decode jb_Gr_setWalk 18 = .ok (.iastore, 1) := by decide +kernel
theorem jd_Gr_setWalk_19 : decode jb_Gr_setWalk 19 = .ok (.aload_n 0, 1) := by decide +kernel
theorem jd_Gr_setWalk_20 : decode jb_Gr_setWalk 20 = .ok (.getfield 25, 3) := by decide +kernel
theorem jd_Gr_setWalk_23 : decode jb_Gr_setWalk 23 = .ok (.iload_n 2, 1) := by decide +kernel
theorem jd_Gr_setWalk_24 : decode jb_Gr_setWalk 24 = .ok (.aaload, 1) := by decide +kernel
theorem jd_Gr_setWalk_25 : decode jb_Gr_setWalk 25 = .ok (.iload_n 1, 1) := by decide +kernel
theorem jd_Gr_setWalk_26 : decode jb_Gr_setWalk 26 = .ok (.iload_n 3, 1) := by decide +kernel
theorem jd_Gr_setWalk_27 : decode jb_Gr_setWalk 27 = .ok (.iastore, 1) := by decide +kernel
theorem jd_Gr_setWalk_28 : decode jb_Gr_setWalk 28 = .ok (.aload_n 0, 1) := by decide +kernel
theorem jd_Gr_setWalk_29 : decode jb_Gr_setWalk 29 = .ok (.invokevirtual 31, 3) := by decide +kernel
theorem jd_Gr_setWalk_32 : decode jb_Gr_setWalk 32 = .ok (.iload 4, 2) := by decide +kernel
theorem jd_Gr_setWalk_34 : decode jb_Gr_setWalk 34 = .ok (.ireturn, 1) := by decide +kernel
def f_Gr_setWalk (F : Nat) (x1 : Int32) (x2 : Int32) (x3 : Int32) (I : j_M) : Option (Int32 × j_M) := (if j_ok x1 16 = true then (if j_ok x2 16 = true then j_let (I (5 + (j_ix x1)) (j_ix x2)) (fun v2 => (if j_ok x1 16 = true then (if j_ok x2 16 = true then j_let (j_wr I (5 + (j_ix x1)) (j_ix x2) x3) (fun I4 => (if j_ok x2 16 = true then (if j_ok x1 16 = true then j_let (j_wr I4 (5 + (j_ix x2)) (j_ix x1) x3) (fun I6 => j_bd (f_Gr_measure F I6) (fun v7 I8 => some (v2, I8))) else none) else none)) else none) else none)) else none) else none)
set_option maxRecDepth 100000 in
set_option maxHeartbeats 4000000 in
theorem k_Gr_setWalk {l : Launch} {g : j_G} {b n : Nat} {P : j_R} {F : Nat} (hF : j_Fx 1 38 P) (hn : 38 ≤ n) {x1 : Int32} {x2 : Int32} {x3 : Int32} {I : j_M} {r : Int32 × j_M}  (h : f_Gr_setWalk F x1 x2 x3 I = some r) : j_Met l g b n P 2 jy_Gr_setWalk jb_Gr_setWalk 5 (some .int) [.ref (b + 1), .int x1, .int x2, .int x3] I r.2 (some (.int r.1)) := by
  unfold f_Gr_setWalk at h
  refine j_enter (plainFor_of_name (by decide)) (Nat.le_of_ble_eq_true rfl) [some (.ref (b + 1)), some (.int x1), some (.int x2), some (.int x3), none] rfl ?_
  intro p e R s m args below meth c X0 hnm hRc hRs
  have X : j_X p R s m args meth c g b 2 jb_Gr_setWalk 5 "PleasureGarden$Grounds" (some .int) := X0
  clear X0
  refine j_aload_n X jd_Gr_setWalk_0 rfl rfl ?_
  refine j_getr X jf_Gr_25 jk_1_3 js_1 (j_lt rfl hn) (jp_1_3 hF) jd_Gr_setWalk_1 ?_
  refine j_iload_n X jd_Gr_setWalk_4 rfl rfl ?_
  refine j_aald X rfl rfl js_4 (j_lt rfl hn) jd_Gr_setWalk_5 (fun q => ja_4 hF _ (j_ok_lt q)) h (fun hb1 h => ?_)
  refine j_iload_n X jd_Gr_setWalk_6 rfl rfl ?_
  refine j_iald X (jsp_5 (j_ok_lt hb1)) (j_ltq (j_ok_lt hb1) rfl hn) jd_Gr_setWalk_7 h (fun _ h => ?_)
  refine j_nm h (fun v2 h => ?_)
  refine j_istore (lv' := [some (.ref (b + 1)), some (.int x1), some (.int x2), some (.int x3), some (.int v2)]) X jd_Gr_setWalk_8 (by decide) rfl ?_
  refine j_aload_n X jd_Gr_setWalk_10 rfl rfl ?_
  refine j_getr X jf_Gr_25 jk_1_3 js_1 (j_lt rfl hn) (jp_1_3 hF) jd_Gr_setWalk_11 ?_
  refine j_iload_n X jd_Gr_setWalk_14 rfl rfl ?_
  refine j_aald X rfl rfl js_4 (j_lt rfl hn) jd_Gr_setWalk_15 (fun q => ja_4 hF _ (j_ok_lt q)) h (fun hb3 h => ?_)
  refine j_iload_n X jd_Gr_setWalk_16 rfl rfl ?_
  refine j_iload_n X jd_Gr_setWalk_17 rfl rfl ?_
  refine j_iast X (jsp_5 (j_ok_lt hb3)) (j_ltq (j_ok_lt hb3) rfl hn) jd_Gr_setWalk_18 h (fun h => ?_)
  refine j_mem h (fun I4 h => ?_)
  refine j_aload_n X jd_Gr_setWalk_19 rfl rfl ?_
  refine j_getr X jf_Gr_25 jk_1_3 js_1 (j_lt rfl hn) (jp_1_3 hF) jd_Gr_setWalk_20 ?_
  refine j_iload_n X jd_Gr_setWalk_23 rfl rfl ?_
  refine j_aald X rfl rfl js_4 (j_lt rfl hn) jd_Gr_setWalk_24 (fun q => ja_4 hF _ (j_ok_lt q)) h (fun hb5 h => ?_)
  refine j_iload_n X jd_Gr_setWalk_25 rfl rfl ?_
  refine j_iload_n X jd_Gr_setWalk_26 rfl rfl ?_
  refine j_iast X (jsp_5 (j_ok_lt hb5)) (j_ltq (j_ok_lt hb5) rfl hn) jd_Gr_setWalk_27 h (fun h => ?_)
  refine j_mem h (fun I6 h => ?_)
  refine j_aload_n X jd_Gr_setWalk_28 rfl rfl ?_
  refine j_callVv (As := []) (st := []) (c0 := 1) X h jc_Gr js_1 (j_lt rfl hn) ⟨jqc_Gr_measure, jqi_Gr_measure, jqv_Gr_measure, jqn_Gr⟩ jlm_Gr_31 jh_Gr_measure rfl (by decide) (by decide) (Nat.le_of_ble_eq_true rfl) ⟨Nat.zero_le _, Nat.zero_le _⟩ (fun v0 I0 h => k_Gr_measure (r := (v0, I0)) hF hn h) jd_Gr_setWalk_29 rfl (fun v7 I8 h => ?_)
  refine j_iload X jd_Gr_setWalk_32 rfl ?_
  exact j_iret X rfl jd_Gr_setWalk_34 h
-- PleasureGarden$Grounds.nearestShelter(I)I
theorem jd_Gr_nearestShelter_0 : decode jb_Gr_nearestShelter 0 = .ok (.iconst (-1), 1) := by decide +kernel
theorem jd_Gr_nearestShelter_1 : decode jb_Gr_nearestShelter 1 = .ok (.istore_n 2, 1) := by decide +kernel
theorem jd_Gr_nearestShelter_2 : decode jb_Gr_nearestShelter 2 = .ok (.ldc 34, 2) := by decide +kernel
theorem jd_Gr_nearestShelter_4 : decode jb_Gr_nearestShelter 4 = .ok (.istore_n 3, 1) := by decide +kernel
theorem jd_Gr_nearestShelter_5 : decode jb_Gr_nearestShelter 5 = .ok (.iconst 1, 1) := by decide +kernel
theorem jd_Gr_nearestShelter_6 : decode jb_Gr_nearestShelter 6 = .ok (.istore 4, 2) := by decide +kernel
theorem jd_Gr_nearestShelter_8 : decode jb_Gr_nearestShelter 8 = .ok (.iload 4, 2) := by decide +kernel
theorem jd_Gr_nearestShelter_10 : decode jb_Gr_nearestShelter 10 = .ok (.aload_n 0, 1) := by decide +kernel
theorem jd_Gr_nearestShelter_11 : decode jb_Gr_nearestShelter 11 = .ok (.getfield 9, 3) := by decide +kernel
theorem jd_Gr_nearestShelter_14 : decode jb_Gr_nearestShelter 14 = .ok (.if_icmp .ge 40, 3) := by decide +kernel
theorem jd_Gr_nearestShelter_17 : decode jb_Gr_nearestShelter 17 = .ok (.aload_n 0, 1) := by decide +kernel
theorem jd_Gr_nearestShelter_18 : decode jb_Gr_nearestShelter 18 = .ok (.iload_n 1, 1) := by decide +kernel
theorem jd_Gr_nearestShelter_19 : decode jb_Gr_nearestShelter 19 = .ok (.iload 4, 2) := by decide +kernel
theorem jd_Gr_nearestShelter_21 : decode jb_Gr_nearestShelter 21 = .ok (.invokevirtual 45, 3) := by decide +kernel
theorem jd_Gr_nearestShelter_24 : decode jb_Gr_nearestShelter 24 = .ok (.istore 5, 2) := by decide +kernel
theorem jd_Gr_nearestShelter_26 : decode jb_Gr_nearestShelter 26 = .ok (.aload_n 0, 1) := by decide +kernel
theorem jd_Gr_nearestShelter_27 : decode jb_Gr_nearestShelter 27 = .ok (.getfield 19, 3) := by decide +kernel
theorem jd_Gr_nearestShelter_30 : decode jb_Gr_nearestShelter 30 = .ok (.iload 4, 2) := by decide +kernel
theorem jd_Gr_nearestShelter_32 : decode jb_Gr_nearestShelter 32 = .ok (.baload, 1) := by decide +kernel
theorem jd_Gr_nearestShelter_33 : decode jb_Gr_nearestShelter 33 = .ok (.ifCond .eq 15, 3) := by decide +kernel
theorem jd_Gr_nearestShelter_36 : decode jb_Gr_nearestShelter 36 = .ok (.iload 5, 2) := by decide +kernel
theorem jd_Gr_nearestShelter_38 : decode jb_Gr_nearestShelter 38 = .ok (.iload_n 3, 1) := by decide +kernel
theorem jd_Gr_nearestShelter_39 : decode jb_Gr_nearestShelter 39 = .ok (.if_icmp .ge 9, 3) := by decide +kernel
theorem jd_Gr_nearestShelter_42 : decode jb_Gr_nearestShelter 42 = .ok (.iload 5, 2) := by decide +kernel
theorem jd_Gr_nearestShelter_44 : decode jb_Gr_nearestShelter 44 = .ok (.istore_n 3, 1) := by decide +kernel
theorem jd_Gr_nearestShelter_45 : decode jb_Gr_nearestShelter 45 = .ok (.iload 4, 2) := by decide +kernel
theorem jd_Gr_nearestShelter_47 : decode jb_Gr_nearestShelter 47 = .ok (.istore_n 2, 1) := by decide +kernel
theorem jd_Gr_nearestShelter_48 : decode jb_Gr_nearestShelter 48 = .ok (.iinc 4 1, 3) := by decide +kernel
theorem jd_Gr_nearestShelter_51 : decode jb_Gr_nearestShelter 51 = .ok (.goto (-43), 3) := by decide +kernel
theorem jd_Gr_nearestShelter_54 : decode jb_Gr_nearestShelter 54 = .ok (.iload_n 2, 1) := by decide +kernel
theorem jd_Gr_nearestShelter_55 : decode jb_Gr_nearestShelter 55 = .ok (.ireturn, 1) := by decide +kernel
def f_Gr_nearestShelter_48 (F : Nat) (kb8 : Int32 → Int32 → Int32 → Int32 → j_M → Option (Int32 × j_M)) (x1 : Int32) (x2 : Int32) (x3 : Int32) (x4 : Int32) (I : j_M) : Option (Int32 × j_M) := j_let (x4 + 1) (fun v1 => kb8 x1 x2 x3 v1 I)
def f_Gr_nearestShelter_8b (F : Nat) (kb8 : Int32 → Int32 → Int32 → Int32 → j_M → Option (Int32 × j_M)) (x1 : Int32) (x2 : Int32) (x3 : Int32) (x4 : Int32) (I : j_M) : Option (Int32 × j_M) := (if (I 1 0) ≤ x4 then some (x2, I) else j_bd (f_Gr_minutesBetween F x1 x4 I) (fun v2 I3 => (if j_ok x4 16 = true then (if (I3 3 (j_ix x4)) = 0 then f_Gr_nearestShelter_48 F kb8 x1 x2 x3 x4 I3 else (if x3 ≤ v2 then f_Gr_nearestShelter_48 F kb8 x1 x2 x3 x4 I3 else f_Gr_nearestShelter_48 F kb8 x1 x4 v2 x4 I3)) else none)))
def f_Gr_nearestShelter_8 (F : Nat)  (x1 : Int32) (x2 : Int32) (x3 : Int32) (x4 : Int32) (I : j_M) : Option (Int32 × j_M) := j_it (fun (again : Int32 × Int32 × Int32 × Int32 × j_M → Option (Int32 × j_M)) (q : Int32 × Int32 × Int32 × Int32 × j_M) => f_Gr_nearestShelter_8b F  (fun x1 x2 x3 x4 I => again (x1, x2, x3, x4, I))  q.1 q.2.1 q.2.2.1 q.2.2.2.1 q.2.2.2.2) F (x1, x2, x3, x4, I)
def f_Gr_nearestShelter (F : Nat) (x1 : Int32) (I : j_M) : Option (Int32 × j_M) := f_Gr_nearestShelter_8 F x1 (-1) 1000000 1 I
set_option maxRecDepth 100000 in
set_option maxHeartbeats 4000000 in
theorem k_Gr_nearestShelter_48 {p : Program} {l : Launch} {e : Env} {R : Room} {s : State} {m : MethodId} {args : Array Value} {below : List Frame} {meth : Method} {c : Code} {g : j_G} {b n : Nat} {P : j_R} {F : Nat} (hF : j_Fx 1 38 P) (hn : 38 ≤ n) (X : j_X p R s m args meth c g b 2 jb_Gr_nearestShelter 6 "PleasureGarden$Grounds" (some .int)) {kb8 : Int32 → Int32 → Int32 → Int32 → j_M → Option (Int32 × j_M)} (hkb8 : ∀ (x1 : Int32) (x2 : Int32) (x3 : Int32) (x4 : Int32) (I : j_M) (r : Int32 × j_M), kb8 x1 x2 x3 x4 I = some r → j_W p l e R s m args below meth c 6 g b n 0 0 (j_Qi g b n P below args s r) I P 8 [some (.ref (b + 1)), some (.int x1), some (.int x2), some (.int x3), some (.int x4), none] []) {x1 : Int32} {x2 : Int32} {x3 : Int32} {x4 : Int32} {I : j_M} {r : Int32 × j_M}  (h : f_Gr_nearestShelter_48 F kb8 x1 x2 x3 x4 I = some r) : j_W p l e R s m args below meth c 6 g b n 0 0 (j_Qi g b n P below args s r) I P 48 [some (.ref (b + 1)), some (.int x1), some (.int x2), some (.int x3), some (.int x4), none] [] := by
  unfold f_Gr_nearestShelter_48 at h
  obtain ⟨v1, ev1, h⟩ := j_ex h
  refine j_iinc (v := v1) (lv' := [some (.ref (b + 1)), some (.int x1), some (.int x2), some (.int x3), some (.int v1), none]) X jd_Gr_nearestShelter_48 rfl (by rw [ev1]; rfl) (by decide) rfl ?_
  refine j_goto (tgt := 8) X jd_Gr_nearestShelter_51 rfl ?_
  exact hkb8 _ _ _ _ _ _ h
set_option maxRecDepth 100000 in
set_option maxHeartbeats 4000000 in
theorem k_Gr_nearestShelter_8b {p : Program} {l : Launch} {e : Env} {R : Room} {s : State} {m : MethodId} {args : Array Value} {below : List Frame} {meth : Method} {c : Code} {g : j_G} {b n : Nat} {P : j_R} {F : Nat} (hF : j_Fx 1 38 P) (hn : 38 ≤ n) (X : j_X p R s m args meth c g b 2 jb_Gr_nearestShelter 6 "PleasureGarden$Grounds" (some .int)) {kb8 : Int32 → Int32 → Int32 → Int32 → j_M → Option (Int32 × j_M)} (hkb8 : ∀ (x1 : Int32) (x2 : Int32) (x3 : Int32) (x4 : Int32) (I : j_M) (r : Int32 × j_M), kb8 x1 x2 x3 x4 I = some r → j_W p l e R s m args below meth c 6 g b n 0 0 (j_Qi g b n P below args s r) I P 8 [some (.ref (b + 1)), some (.int x1), some (.int x2), some (.int x3), some (.int x4), none] []) {x1 : Int32} {x2 : Int32} {x3 : Int32} {x4 : Int32} {I : j_M} {r : Int32 × j_M}  (h : f_Gr_nearestShelter_8b F kb8 x1 x2 x3 x4 I = some r) : j_W p l e R s m args below meth c 6 g b n 0 0 (j_Qi g b n P below args s r) I P 8 [some (.ref (b + 1)), some (.int x1), some (.int x2), some (.int x3), some (.int x4), none] [] := by
  unfold f_Gr_nearestShelter_8b at h
  refine j_iload X jd_Gr_nearestShelter_8 rfl ?_
  refine j_aload_n X jd_Gr_nearestShelter_10 rfl rfl ?_
  refine j_get X jf_Gr_9 jk_1_0 js_1 (j_lt rfl hn) jd_Gr_nearestShelter_11 ?_
  refine j_icmp_ge (tgt := 54) X jd_Gr_nearestShelter_14 rfl h (fun h => ?_) (fun h => ?_)
  · refine j_iload_n X jd_Gr_nearestShelter_54 rfl rfl ?_
    exact j_iret X rfl jd_Gr_nearestShelter_55 h
  · refine j_aload_n X jd_Gr_nearestShelter_17 rfl rfl ?_
    refine j_iload_n X jd_Gr_nearestShelter_18 rfl rfl ?_
    refine j_iload X jd_Gr_nearestShelter_19 rfl ?_
    refine j_callVi (As := [.int x1, .int x4]) (st := []) (c0 := 1) X h jc_Gr js_1 (j_lt rfl hn) ⟨jqc_Gr_minutesBetween, jqi_Gr_minutesBetween, jqv_Gr_minutesBetween, jqn_Gr⟩ jlm_Gr_45 jh_Gr_minutesBetween rfl (by decide) (by decide) (Nat.le_of_ble_eq_true rfl) ⟨Nat.zero_le _, Nat.zero_le _⟩ (fun v0 I0 h => k_Gr_minutesBetween (r := (v0, I0)) hF hn h) jd_Gr_nearestShelter_21 rfl (fun v2 I3 h => ?_)
    refine j_istore (lv' := [some (.ref (b + 1)), some (.int x1), some (.int x2), some (.int x3), some (.int x4), some (.int v2)]) X jd_Gr_nearestShelter_24 (by decide) rfl ?_
    refine j_aload_n X jd_Gr_nearestShelter_26 rfl rfl ?_
    refine j_getr X jf_Gr_19 jk_1_2 js_1 (j_lt rfl hn) (jp_1_2 hF) jd_Gr_nearestShelter_27 ?_
    refine j_iload X jd_Gr_nearestShelter_30 rfl ?_
    refine j_zald X js_3 (j_lt rfl hn) jd_Gr_nearestShelter_32 h (fun _ h => ?_)
    refine j_if_eq (tgt := 48) X jd_Gr_nearestShelter_33 rfl h (fun h => ?_) (fun h => ?_)
    · refine j_sub [true, true, true, true, true, false] (lv' := [some (.ref (b + 1)), some (.int x1), some (.int x2), some (.int x3), some (.int x4), none]) rfl ?_
      exact k_Gr_nearestShelter_48 hF hn X hkb8 h
    · refine j_iload X jd_Gr_nearestShelter_36 rfl ?_
      refine j_iload_n X jd_Gr_nearestShelter_38 rfl rfl ?_
      refine j_icmp_ge (tgt := 48) X jd_Gr_nearestShelter_39 rfl h (fun h => ?_) (fun h => ?_)
      · refine j_sub [true, true, true, true, true, false] (lv' := [some (.ref (b + 1)), some (.int x1), some (.int x2), some (.int x3), some (.int x4), none]) rfl ?_
        exact k_Gr_nearestShelter_48 hF hn X hkb8 h
      · refine j_iload X jd_Gr_nearestShelter_42 rfl ?_
        refine j_istore_n (lv' := [some (.ref (b + 1)), some (.int x1), some (.int x2), some (.int v2), some (.int x4), some (.int v2)]) X jd_Gr_nearestShelter_44 rfl (by decide) rfl ?_
        refine j_iload X jd_Gr_nearestShelter_45 rfl ?_
        refine j_istore_n (lv' := [some (.ref (b + 1)), some (.int x1), some (.int x4), some (.int v2), some (.int x4), some (.int v2)]) X jd_Gr_nearestShelter_47 rfl (by decide) rfl ?_
        refine j_sub [true, true, true, true, true, false] (lv' := [some (.ref (b + 1)), some (.int x1), some (.int x4), some (.int v2), some (.int x4), none]) rfl ?_
        exact k_Gr_nearestShelter_48 hF hn X hkb8 h
set_option maxRecDepth 100000 in
set_option maxHeartbeats 4000000 in
theorem k_Gr_nearestShelter_8 {p : Program} {l : Launch} {e : Env} {R : Room} {s : State} {m : MethodId} {args : Array Value} {below : List Frame} {meth : Method} {c : Code} {g : j_G} {b n : Nat} {P : j_R} {F : Nat} (hF : j_Fx 1 38 P) (hn : 38 ≤ n) (X : j_X p R s m args meth c g b 2 jb_Gr_nearestShelter 6 "PleasureGarden$Grounds" (some .int))  {x1 : Int32} {x2 : Int32} {x3 : Int32} {x4 : Int32} {I : j_M} {r : Int32 × j_M} (h : f_Gr_nearestShelter_8 F x1 x2 x3 x4 I = some r) : j_W p l e R s m args below meth c 6 g b n 0 0 (j_Qi g b n P below args s r) I P 8 [some (.ref (b + 1)), some (.int x1), some (.int x2), some (.int x3), some (.int x4), none] [] := by
  refine j_loop (G := fun (q : Int32 × Int32 × Int32 × Int32 × j_M) (r : Int32 × j_M) => j_W p l e R s m args below meth c 6 g b n 0 0 (j_Qi g b n P below args s r) q.2.2.2.2 P 8 [some (.ref (b + 1)), some (.int (q.1)), some (.int (q.2.1)), some (.int (q.2.2.1)), some (.int (q.2.2.2.1)), none] []) ?_ F (x1, x2, x3, x4, I) r h
  intro again hrec0 q r h
  exact k_Gr_nearestShelter_8b hF hn X (fun x1 x2 x3 x4 I r h => hrec0 (x1, x2, x3, x4, I) r h)  h
set_option maxRecDepth 100000 in
set_option maxHeartbeats 4000000 in
theorem k_Gr_nearestShelter {l : Launch} {g : j_G} {b n : Nat} {P : j_R} {F : Nat} (hF : j_Fx 1 38 P) (hn : 38 ≤ n) {x1 : Int32} {I : j_M} {r : Int32 × j_M}  (h : f_Gr_nearestShelter F x1 I = some r) : j_Met l g b n P 2 jy_Gr_nearestShelter jb_Gr_nearestShelter 6 (some .int) [.ref (b + 1), .int x1] I r.2 (some (.int r.1)) := by
  unfold f_Gr_nearestShelter at h
  refine j_enter (plainFor_of_name (by decide)) (Nat.le_of_ble_eq_true rfl) [some (.ref (b + 1)), some (.int x1), none, none, none, none] rfl ?_
  intro p e R s m args below meth c X0 hnm hRc hRs
  have X : j_X p R s m args meth c g b 2 jb_Gr_nearestShelter 6 "PleasureGarden$Grounds" (some .int) := X0
  clear X0
  refine j_iconst (v := (-1)) X jd_Gr_nearestShelter_0 (by decide) ?_
  refine j_istore_n (lv' := [some (.ref (b + 1)), some (.int x1), some (.int (-1)), none, none, none]) X jd_Gr_nearestShelter_1 rfl (by decide) rfl ?_
  refine j_ldc (v := 1000000) X jlc_Gr_34 jd_Gr_nearestShelter_2 ?_
  refine j_istore_n (lv' := [some (.ref (b + 1)), some (.int x1), some (.int (-1)), some (.int 1000000), none, none]) X jd_Gr_nearestShelter_4 rfl (by decide) rfl ?_
  refine j_iconst (v := 1) X jd_Gr_nearestShelter_5 (by decide) ?_
  refine j_istore (lv' := [some (.ref (b + 1)), some (.int x1), some (.int (-1)), some (.int 1000000), some (.int 1), none]) X jd_Gr_nearestShelter_6 (by decide) rfl ?_
  exact k_Gr_nearestShelter_8 hF hn X h
