-- PleasureGarden$Reader.next()I
theorem jd_Re_next_0 : decode jb_Re_next 0 = .ok (.aload_n 0, 1) := by decide +kernel
theorem jd_Re_next_1 : decode jb_Re_next 1 = .ok (.getfield 13, 3) := by decide +kernel
theorem jd_Re_next_4 : decode jb_Re_next 4 = .ok (.iconst (-1), 1) := by decide +kernel
theorem jd_Re_next_5 : decode jb_Re_next 5 = .ok (.if_icmp .ne 14, 3) := by decide +kernel
theorem jd_Re_next_8 : decode jb_Re_next 8 = .ok (.aload_n 0, 1) := by decide +kernel
theorem jd_Re_next_9 : decode jb_Re_next 9 = .ok (.getfield 27, 3) := by decide +kernel
theorem jd_Re_next_12 : decode jb_Re_next 12 = .ok (.aload_n 0, 1) := by decide +kernel
theorem jd_Re_next_13 : decode jb_Re_next 13 = .ok (.getfield 24, 3) := by decide +kernel
theorem jd_Re_next_16 : decode jb_Re_next 16 = .ok (.if_icmp .lt 7, 3) := by decide +kernel
theorem jd_Re_next_19 : decode jb_Re_next 19 = .ok (.iconst (-1), 1) := by decide +kernel
theorem jd_Re_next_20 : decode jb_Re_next 20 = .ok (.goto 16, 3) := by decide +kernel
theorem jd_Re_next_23 : decode jb_Re_next 23 = .ok (.aload_n 0, 1) := by decide +kernel
theorem jd_Re_next_24 : decode jb_Re_next 24 = .ok (.getfield 17, 3) := by decide +kernel
theorem jd_Re_next_27 : decode jb_Re_next 27 = .ok (.aload_n 0, 1) := by decide +kernel
theorem jd_Re_next_28 : decode jb_Re_next 28 = .ok (.getfield 27, 3) := by decide +kernel
theorem jd_Re_next_31 : decode jb_Re_next 31 = .ok (.baload, 1) := by decide +kernel
theorem jd_Re_next_32 : decode jb_Re_next 32 = .ok (.sipush 255, 3) := by decide +kernel
theorem jd_Re_next_35 : decode jb_Re_next 35 = .ok (.iand, 1) := by decide +kernel
theorem jd_Re_next_36 : decode jb_Re_next 36 = .ok (.ireturn, 1) := by decide +kernel
def f_Re_next (F : Nat)  (I : j_M) : Option (Int32 × j_M) := (if (I 208 1) = (-1) then (if (I 208 5) < (I 208 4) then (if I 208 2 = nI 203 then (if j_ok (I 208 5) 3720 = true then some ((I 203 (j_ix (I 208 5))) &&& 255, I) else none) else none) else some ((-1), I)) else some ((-1), I))
set_option maxRecDepth 100000 in
set_option maxHeartbeats 4000000 in
theorem k_Re_next {l : Launch} {g : j_G} {b n : Nat} {P : j_R} {F : Nat} (hF : j_Fx 0 260 P) (hn : 260 ≤ n)  {I : j_M} {r : Int32 × j_M}  (h : f_Re_next F I = some r) : j_Met l g b n P 0 jy_Re_next jb_Re_next 1 (some .int) [.ref (b + 208)] I r.2 (some (.int r.1)) := by
  unfold f_Re_next at h
  refine j_enter (plainFor_of_name (by decide)) (Nat.le_of_ble_eq_true rfl) [some (.ref (b + 208))] rfl ?_
  intro p e R s m args below meth c X0 hnm hRc hRs
  have X : j_X p R s m args meth c g b 0 jb_Re_next 1 "PleasureGarden$Reader" (some .int) := X0
  clear X0
  refine j_aload_n X jd_Re_next_0 rfl rfl ?_
  refine j_get X jf_Re_13 jk_10_1 js_208 (j_lt rfl hn) jd_Re_next_1 ?_
  refine j_iconst (v := (-1)) X jd_Re_next_4 (by decide) ?_
  refine j_icmp_ne (tgt := 19) X jd_Re_next_5 rfl h (fun h => ?_) (fun h => ?_)
  · refine j_aload_n X jd_Re_next_8 rfl rfl ?_
    refine j_get X jf_Re_27 jk_10_5 js_208 (j_lt rfl hn) jd_Re_next_9 ?_
    refine j_aload_n X jd_Re_next_12 rfl rfl ?_
    refine j_get X jf_Re_24 jk_10_4 js_208 (j_lt rfl hn) jd_Re_next_13 ?_
    refine j_icmp_lt (tgt := 23) X jd_Re_next_16 rfl h (fun h => ?_) (fun h => ?_)
    · refine j_aload_n X jd_Re_next_23 rfl rfl ?_
      refine j_gett X 203 (by decide) jf_Re_17 jk_10_2 js_208 (j_lt rfl hn) jd_Re_next_24 h (fun h => ?_)
      refine j_aload_n X jd_Re_next_27 rfl rfl ?_
      refine j_get X jf_Re_27 jk_10_5 js_208 (j_lt rfl hn) jd_Re_next_28 ?_
      refine j_bald X js_203 (j_lt rfl hn) jd_Re_next_31 h (fun _ h => ?_)
      refine j_sipush (v := 255) X jd_Re_next_32 (by decide) ?_
      refine j_iand X jd_Re_next_35 ?_
      exact j_iret X rfl jd_Re_next_36 h
    · refine j_iconst (v := (-1)) X jd_Re_next_19 (by decide) ?_
      refine j_goto (tgt := 36) X jd_Re_next_20 rfl ?_
      exact j_iret X rfl jd_Re_next_36 h
  · refine j_iconst (v := (-1)) X jd_Re_next_19 (by decide) ?_
    refine j_goto (tgt := 36) X jd_Re_next_20 rfl ?_
    exact j_iret X rfl jd_Re_next_36 h
-- PleasureGarden$Reader.fail()V
theorem jd_Re_fail_0 : decode jb_Re_fail 0 = .ok (.aload_n 0, 1) := by decide +kernel
theorem jd_Re_fail_1 : decode jb_Re_fail 1 = .ok (.getfield 13, 3) := by decide +kernel
theorem jd_Re_fail_4 : decode jb_Re_fail 4 = .ok (.iconst (-1), 1) := by decide +kernel
theorem jd_Re_fail_5 : decode jb_Re_fail 5 = .ok (.if_icmp .ne 16, 3) := by decide +kernel
theorem jd_Re_fail_8 : decode jb_Re_fail 8 = .ok (.aload_n 0, 1) := by decide +kernel
theorem jd_Re_fail_9 : decode jb_Re_fail 9 = .ok (.aload_n 0, 1) := by decide +kernel
theorem jd_Re_fail_10 : decode jb_Re_fail 10 = .ok (.getfield 27, 3) := by decide +kernel
theorem jd_Re_fail_13 : decode jb_Re_fail 13 = .ok (.aload_n 0, 1) := by decide +kernel
theorem jd_Re_fail_14 : decode jb_Re_fail 14 = .ok (.getfield 21, 3) := by decide +kernel
theorem jd_Re_fail_17 : decode jb_Re_fail 17 = .ok (.isub, 1) := by decide +kernel
theorem jd_Re_fail_18 : decode jb_Re_fail 18 = .ok (.putfield 13, 3) := by decide +kernel
theorem jd_Re_fail_21 : decode jb_Re_fail 21 = .ok (.return_, 1) := by decide +kernel
def f_Re_fail (F : Nat)  (I : j_M) : Option (Int32 × j_M) := (if (I 208 1) = (-1) then j_let (j_wr I 208 1 ((I 208 5) - (I 208 3))) (fun I1 => some (0, I1)) else some (0, I))
set_option maxRecDepth 100000 in
set_option maxHeartbeats 4000000 in
theorem k_Re_fail {l : Launch} {g : j_G} {b n : Nat} {P : j_R} {F : Nat} (hF : j_Fx 0 260 P) (hn : 260 ≤ n)  {I : j_M} {r : Int32 × j_M}  (h : f_Re_fail F I = some r) : j_Met l g b n P 0 jy_Re_fail jb_Re_fail 1 none [.ref (b + 208)] I r.2 none := by
  unfold f_Re_fail at h
  refine j_enter (plainFor_of_name (by decide)) (Nat.le_of_ble_eq_true rfl) [some (.ref (b + 208))] rfl ?_
  intro p e R s m args below meth c X0 hnm hRc hRs
  have X : j_X p R s m args meth c g b 0 jb_Re_fail 1 "PleasureGarden$Reader" none := X0
  clear X0
  refine j_aload_n X jd_Re_fail_0 rfl rfl ?_
  refine j_get X jf_Re_13 jk_10_1 js_208 (j_lt rfl hn) jd_Re_fail_1 ?_
  refine j_iconst (v := (-1)) X jd_Re_fail_4 (by decide) ?_
  refine j_icmp_ne (tgt := 21) X jd_Re_fail_5 rfl h (fun h => ?_) (fun h => ?_)
  · refine j_aload_n X jd_Re_fail_8 rfl rfl ?_
    refine j_aload_n X jd_Re_fail_9 rfl rfl ?_
    refine j_get X jf_Re_27 jk_10_5 js_208 (j_lt rfl hn) jd_Re_fail_10 ?_
    refine j_aload_n X jd_Re_fail_13 rfl rfl ?_
    refine j_get X jf_Re_21 jk_10_3 js_208 (j_lt rfl hn) jd_Re_fail_14 ?_
    refine j_isub X jd_Re_fail_17 ?_
    refine j_puti X jt_Re jto_Re jn_Re jf_Re_13 jk_10_1 js_208 (j_lt rfl hn) (Or.inl rfl) rfl jd_Re_fail_18 ?_
    refine j_mem h (fun I1 h => ?_)
    exact j_vret X rfl jd_Re_fail_21 h
  · exact j_vret X rfl jd_Re_fail_21 h
-- PleasureGarden$Reader.isDigit(I)Z
theorem jd_Re_isDigit_0 : decode jb_Re_isDigit 0 = .ok (.iload_n 0, 1) := by decide +kernel
theorem jd_Re_isDigit_1 : decode jb_Re_isDigit 1 = .ok (.bipush 48, 2) := by decide +kernel
theorem jd_Re_isDigit_3 : decode jb_Re_isDigit 3 = .ok (.if_icmp .lt 13, 3) := by decide +kernel
theorem jd_Re_isDigit_6 : decode jb_Re_isDigit 6 = .ok (.iload_n 0, 1) := by decide +kernel
theorem jd_Re_isDigit_7 : decode jb_Re_isDigit 7 = .ok (.bipush 57, 2) := by decide +kernel
theorem jd_Re_isDigit_9 : decode jb_Re_isDigit 9 = .ok (.if_icmp .gt 7, 3) := by decide +kernel
theorem jd_Re_isDigit_12 : decode jb_Re_isDigit 12 = .ok (.iconst 1, 1) := by decide +kernel
theorem jd_Re_isDigit_13 : decode jb_Re_isDigit 13 = .ok (.goto 4, 3) := by decide +kernel
theorem jd_Re_isDigit_16 : decode jb_Re_isDigit 16 = .ok (.iconst 0, 1) := by decide +kernel
theorem jd_Re_isDigit_17 : decode jb_Re_isDigit 17 = .ok (.ireturn, 1) := by decide +kernel
def f_Re_isDigit (F : Nat) (x0 : Int32) (I : j_M) : Option (Int32 × j_M) := (if x0 < 48 then some (0, I) else (if 57 < x0 then some (0, I) else some (1, I)))
set_option maxRecDepth 100000 in
set_option maxHeartbeats 4000000 in
theorem k_Re_isDigit {l : Launch} {g : j_G} {b n : Nat} {P : j_R} {F : Nat} (hF : j_Fx 0 260 P) (hn : 260 ≤ n) {x0 : Int32} {I : j_M} {r : Int32 × j_M}  (h : f_Re_isDigit F x0 I = some r) : j_Met l g b n P 0 jy_Re_isDigit jb_Re_isDigit 1 (some .boolean) [.int x0] I r.2 (some (.int r.1)) := by
  unfold f_Re_isDigit at h
  refine j_enter (plainFor_of_name (by decide)) (Nat.le_of_ble_eq_true rfl) [some (.int x0)] rfl ?_
  intro p e R s m args below meth c X0 hnm hRc hRs
  have X : j_X p R s m args meth c g b 0 jb_Re_isDigit 1 "PleasureGarden$Reader" (some .boolean) := X0
  clear X0
  refine j_iload_n X jd_Re_isDigit_0 rfl rfl ?_
  refine j_bipush (v := 48) X jd_Re_isDigit_1 (by decide) ?_
  refine j_icmp_lt (tgt := 16) X jd_Re_isDigit_3 rfl h (fun h => ?_) (fun h => ?_)
  · refine j_iconst (v := 0) X jd_Re_isDigit_16 (by decide) ?_
    exact j_zret X rfl (by decide) jd_Re_isDigit_17 h
  · refine j_iload_n X jd_Re_isDigit_6 rfl rfl ?_
    refine j_bipush (v := 57) X jd_Re_isDigit_7 (by decide) ?_
    refine j_icmp_gt (tgt := 16) X jd_Re_isDigit_9 rfl h (fun h => ?_) (fun h => ?_)
    · refine j_iconst (v := 0) X jd_Re_isDigit_16 (by decide) ?_
      exact j_zret X rfl (by decide) jd_Re_isDigit_17 h
    · refine j_iconst (v := 1) X jd_Re_isDigit_12 (by decide) ?_
      refine j_goto (tgt := 17) X jd_Re_isDigit_13 rfl ?_
      exact j_zret X rfl (by decide) jd_Re_isDigit_17 h
-- PleasureGarden$Reader.levelOf(I)I
theorem jd_Re_levelOf_0 : decode jb_Re_levelOf 0 = .ok (.iload_n 0, 1) := by decide +kernel
theorem jd_Re_levelOf_1 : decode jb_Re_levelOf 1 = .ok (.tableswitch 105 42 62 #[103, 101, 105, 101, 105, 103, 105, 105, 105, 105, 105, 105, 105, 105, 105, 105, 105, 105, 99, 99, 99], 99) := by decide +kernel
theorem jd_Re_levelOf_100 : decode jb_Re_levelOf 100 = .ok (.iconst 0, 1) := by decide +kernel
theorem jd_Re_levelOf_101 : decode jb_Re_levelOf 101 = .ok (.ireturn, 1) := by decide +kernel
theorem jd_Re_levelOf_102 : decode jb_Re_levelOf 102 = .ok (.iconst 1, 1) := by decide +kernel
theorem jd_Re_levelOf_103 : decode jb_Re_levelOf 103 = .ok (.ireturn, 1) := by decide +kernel
theorem jd_Re_levelOf_104 : decode jb_Re_levelOf 104 = .ok (.iconst 2, 1) := by decide +kernel
theorem jd_Re_levelOf_105 : decode jb_Re_levelOf 105 = .ok (.ireturn, 1) := by decide +kernel
theorem jd_Re_levelOf_106 : decode jb_Re_levelOf 106 = .ok (.iconst (-1), 1) := by decide +kernel
theorem jd_Re_levelOf_107 : decode jb_Re_levelOf 107 = .ok (.ireturn, 1) := by decide +kernel
def f_Re_levelOf (F : Nat) (x0 : Int32) (I : j_M) : Option (Int32 × j_M) := (if x0 = 42 then some (2, I) else (if x0 = 43 then some (1, I) else (if x0 = 45 then some (1, I) else (if x0 = 47 then some (2, I) else (if x0 = 60 then some (0, I) else (if x0 = 61 then some (0, I) else (if x0 = 62 then some (0, I) else some ((-1), I))))))))
set_option maxRecDepth 100000 in
set_option maxHeartbeats 4000000 in
theorem k_Re_levelOf {l : Launch} {g : j_G} {b n : Nat} {P : j_R} {F : Nat} (hF : j_Fx 0 260 P) (hn : 260 ≤ n) {x0 : Int32} {I : j_M} {r : Int32 × j_M}  (h : f_Re_levelOf F x0 I = some r) : j_Met l g b n P 0 jy_Re_levelOf jb_Re_levelOf 1 (some .int) [.int x0] I r.2 (some (.int r.1)) := by
  unfold f_Re_levelOf at h
  refine j_enter (plainFor_of_name (by decide)) (Nat.le_of_ble_eq_true rfl) [some (.int x0)] rfl ?_
  intro p e R s m args below meth c X0 hnm hRc hRs
  have X : j_X p R s m args meth c g b 0 jb_Re_levelOf 1 "PleasureGarden$Reader" (some .int) := X0
  clear X0
  refine j_iload_n X jd_Re_levelOf_0 rfl rfl ?_
  refine j_ite h (fun e1 h => ?_) (fun e1 h => ?_)
  · refine j_tableIn (tgt := 104) (off := 103) X jd_Re_levelOf_1 e1 (by decide) (by decide) (by decide) rfl ?_
    refine j_iconst (v := 2) X jd_Re_levelOf_104 (by decide) ?_
    exact j_iret X rfl jd_Re_levelOf_105 h
  · refine j_ite h (fun e2 h => ?_) (fun e2 h => ?_)
    · refine j_tableIn (tgt := 102) (off := 101) X jd_Re_levelOf_1 e2 (by decide) (by decide) (by decide) rfl ?_
      refine j_iconst (v := 1) X jd_Re_levelOf_102 (by decide) ?_
      exact j_iret X rfl jd_Re_levelOf_103 h
    · refine j_ite h (fun e3 h => ?_) (fun e3 h => ?_)
      · refine j_tableIn (tgt := 102) (off := 101) X jd_Re_levelOf_1 e3 (by decide) (by decide) (by decide) rfl ?_
        refine j_iconst (v := 1) X jd_Re_levelOf_102 (by decide) ?_
        exact j_iret X rfl jd_Re_levelOf_103 h
      · refine j_ite h (fun e4 h => ?_) (fun e4 h => ?_)
        · refine j_tableIn (tgt := 104) (off := 103) X jd_Re_levelOf_1 e4 (by decide) (by decide) (by decide) rfl ?_
          refine j_iconst (v := 2) X jd_Re_levelOf_104 (by decide) ?_
          exact j_iret X rfl jd_Re_levelOf_105 h
        · refine j_ite h (fun e5 h => ?_) (fun e5 h => ?_)
          · refine j_tableIn (tgt := 100) (off := 99) X jd_Re_levelOf_1 e5 (by decide) (by decide) (by decide) rfl ?_
            refine j_iconst (v := 0) X jd_Re_levelOf_100 (by decide) ?_
            exact j_iret X rfl jd_Re_levelOf_101 h
          · refine j_ite h (fun e6 h => ?_) (fun e6 h => ?_)
            · refine j_tableIn (tgt := 100) (off := 99) X jd_Re_levelOf_1 e6 (by decide) (by decide) (by decide) rfl ?_
              refine j_iconst (v := 0) X jd_Re_levelOf_100 (by decide) ?_
              exact j_iret X rfl jd_Re_levelOf_101 h
            · refine j_ite h (fun e7 h => ?_) (fun e7 h => ?_)
              · refine j_tableIn (tgt := 100) (off := 99) X jd_Re_levelOf_1 e7 (by decide) (by decide) (by decide) rfl ?_
                refine j_iconst (v := 0) X jd_Re_levelOf_100 (by decide) ?_
                exact j_iret X rfl jd_Re_levelOf_101 h
              · refine j_tableDef (tgt := 106) X [42, 43, 45, 47, 60, 61, 62] jd_Re_levelOf_1 (j_allc e1 (j_allc e2 (j_allc e3 (j_allc e4 (j_allc e5 (j_allc e6 (j_allc e7 j_all0))))))) (by decide) (by decide) (by decide) (by decide) rfl ?_
                refine j_iconst (v := (-1)) X jd_Re_levelOf_106 (by decide) ?_
                exact j_iret X rfl jd_Re_levelOf_107 h
-- PleasureGarden$Reader.joined(III)I
theorem jd_Re_joined_0 : decode jb_Re_joined 0 = .ok (.iload_n 1, 1) := by decide +kernel
theorem jd_Re_joined_1 : decode jb_Re_joined 1 = .ok (.lookupswitch 104 #[(42, 100), (43, 92), (45, 96), (60, 59), (61, 70), (62, 81)], 59) := by decide +kernel
theorem jd_Re_joined_60 : decode jb_Re_joined 60 = .ok (.iload_n 0, 1) := by decide +kernel
theorem jd_Re_joined_61 : decode jb_Re_joined 61 = .ok (.iload_n 2, 1) := by decide +kernel
theorem jd_Re_joined_62 : decode jb_Re_joined 62 = .ok (.if_icmp .ge 7, 3) := by decide +kernel
theorem jd_Re_joined_65 : decode jb_Re_joined 65 = .ok (.iconst 1, 1) := by decide +kernel
theorem jd_Re_joined_66 : decode jb_Re_joined 66 = .ok (.goto 4, 3) := by decide +kernel
theorem jd_Re_joined_69 : decode jb_Re_joined 69 = .ok (.iconst 0, 1) := by decide +kernel
theorem jd_Re_joined_70 : decode jb_Re_joined 70 = .ok (.ireturn, 1) := by decide +kernel
theorem jd_Re_joined_71 : decode jb_Re_joined 71 = .ok (.iload_n 0, 1) := by decide +kernel
theorem jd_Re_joined_72 : decode jb_Re_joined 72 = .ok (.iload_n 2, 1) := by decide +kernel
theorem jd_Re_joined_73 : decode jb_Re_joined 73 = .ok (.if_icmp .ne 7, 3) := by decide +kernel
theorem jd_Re_joined_76 : decode jb_Re_joined 76 = .ok (.iconst 1, 1) := by decide +kernel
theorem jd_Re_joined_77 : decode jb_Re_joined 77 = .ok (.goto 4, 3) := by decide +kernel
theorem jd_Re_joined_80 : decode jb_Re_joined 80 = .ok (.iconst 0, 1) := by decide +kernel
theorem jd_Re_joined_81 : decode jb_Re_joined 81 = .ok (.ireturn, 1) := by decide +kernel
theorem jd_Re_joined_82 : decode jb_Re_joined 82 = .ok (.iload_n 0, 1) := by decide +kernel
theorem jd_Re_joined_83 : decode jb_Re_joined 83 = .ok (.iload_n 2, 1) := by decide +kernel
theorem jd_Re_joined_84 : decode jb_Re_joined 84 = .ok (.if_icmp .le 7, 3) := by decide +kernel
theorem jd_Re_joined_87 : decode jb_Re_joined 87 = .ok (.iconst 1, 1) := by decide +kernel
theorem jd_Re_joined_88 : decode jb_Re_joined 88 = .ok (.goto 4, 3) := by decide +kernel
theorem jd_Re_joined_91 : decode jb_Re_joined 91 = .ok (.iconst 0, 1) := by decide +kernel
theorem jd_Re_joined_92 : decode jb_Re_joined 92 = .ok (.ireturn, 1) := by decide +kernel
theorem jd_Re_joined_93 : decode jb_Re_joined 93 = .ok (.iload_n 0, 1) := by decide +kernel
theorem jd_Re_joined_94 : decode jb_Re_joined 94 = .ok (.iload_n 2, 1) := by decide +kernel
theorem jd_Re_joined_95 : decode jb_Re_joined 95 = .ok (.iadd, 1) := by decide +kernel
theorem jd_Re_joined_96 : decode jb_Re_joined 96 = .ok (.ireturn, 1) := by decide +kernel
theorem jd_Re_joined_97 : decode jb_Re_joined 97 = .ok (.iload_n 0, 1) := by decide +kernel
theorem jd_Re_joined_98 : decode jb_Re_joined 98 = .ok (.iload_n 2, 1) := by decide +kernel
theorem jd_Re_joined_99 : decode jb_Re_joined 99 = .ok (.isub, 1) := by decide +kernel
theorem jd_Re_joined_100 : decode jb_Re_joined 100 = .ok (.ireturn, 1) := by decide +kernel
theorem jd_Re_joined_101 : decode jb_Re_joined 101 = .ok (.iload_n 0, 1) := by decide +kernel
theorem jd_Re_joined_102 : decode jb_Re_joined 102 = .ok (.iload_n 2, 1) := by decide +kernel
theorem jd_Re_joined_103 : decode jb_Re_joined 103 = .ok (.imul, 1) := by decide +kernel
theorem jd_Re_joined_104 : decode jb_Re_joined 104 = .ok (.ireturn, 1) := by decide +kernel
theorem jd_Re_joined_105 : decode jb_Re_joined 105 = .ok (.iload_n 2, 1) := by decide +kernel
theorem jd_Re_joined_106 : decode jb_Re_joined 106 = .ok (.ifCond .ne 7, 3) := by decide +kernel
theorem jd_Re_joined_109 : decode jb_Re_joined 109 = .ok (.iconst 0, 1) := by decide +kernel
theorem jd_Re_joined_110 : decode jb_Re_joined 110 = .ok (.goto 6, 3) := by decide +kernel
theorem jd_Re_joined_113 : decode jb_Re_joined 113 = .ok (.iload_n 0, 1) := by decide +kernel
theorem jd_Re_joined_114 : decode jb_Re_joined 114 = .ok (.iload_n 2, 1) := by decide +kernel
theorem jd_Re_joined_115 : decode jb_Re_joined 115 = .ok (.idiv, 1) := by decide +kernel
theorem jd_Re_joined_116 : decode jb_Re_joined 116 = .ok (.ireturn, 1) := by decide +kernel
def f_Re_joined (F : Nat) (x0 : Int32) (x1 : Int32) (x2 : Int32) (I : j_M) : Option (Int32 × j_M) := (if x1 = 42 then some (x0 * x2, I) else (if x1 = 43 then some (x0 + x2, I) else (if x1 = 45 then some (x0 - x2, I) else (if x1 = 60 then (if x2 ≤ x0 then some (0, I) else some (1, I)) else (if x1 = 61 then (if x0 = x2 then some (1, I) else some (0, I)) else (if x1 = 62 then (if x0 ≤ x2 then some (0, I) else some (1, I)) else (if x2 = 0 then some (0, I) else (if x2 = 0 then none else some (x0 / x2, I)))))))))
set_option maxRecDepth 100000 in
set_option maxHeartbeats 4000000 in
theorem k_Re_joined {l : Launch} {g : j_G} {b n : Nat} {P : j_R} {F : Nat} (hF : j_Fx 0 260 P) (hn : 260 ≤ n) {x0 : Int32} {x1 : Int32} {x2 : Int32} {I : j_M} {r : Int32 × j_M}  (h : f_Re_joined F x0 x1 x2 I = some r) : j_Met l g b n P 0 jy_Re_joined jb_Re_joined 3 (some .int) [.int x0, .int x1, .int x2] I r.2 (some (.int r.1)) := by
  unfold f_Re_joined at h
  refine j_enter (plainFor_of_name (by decide)) (Nat.le_of_ble_eq_true rfl) [some (.int x0), some (.int x1), some (.int x2)] rfl ?_
  intro p e R s m args below meth c X0 hnm hRc hRs
  have X : j_X p R s m args meth c g b 0 jb_Re_joined 3 "PleasureGarden$Reader" (some .int) := X0
  clear X0
  refine j_iload_n X jd_Re_joined_0 rfl rfl ?_
  refine j_ite h (fun e1 h => ?_) (fun e1 h => ?_)
  · refine j_lookIn (tgt := 101) (off := 100) X jd_Re_joined_1 e1 (by decide) (by decide) rfl ?_
    refine j_iload_n X jd_Re_joined_101 rfl rfl ?_
    refine j_iload_n X jd_Re_joined_102 rfl rfl ?_
    refine j_imul X jd_Re_joined_103 ?_
    exact j_iret X rfl jd_Re_joined_104 h
  · refine j_ite h (fun e2 h => ?_) (fun e2 h => ?_)
    · refine j_lookIn (tgt := 93) (off := 92) X jd_Re_joined_1 e2 (by decide) (by decide) rfl ?_
      refine j_iload_n X jd_Re_joined_93 rfl rfl ?_
      refine j_iload_n X jd_Re_joined_94 rfl rfl ?_
      refine j_iadd X jd_Re_joined_95 ?_
      exact j_iret X rfl jd_Re_joined_96 h
    · refine j_ite h (fun e3 h => ?_) (fun e3 h => ?_)
      · refine j_lookIn (tgt := 97) (off := 96) X jd_Re_joined_1 e3 (by decide) (by decide) rfl ?_
        refine j_iload_n X jd_Re_joined_97 rfl rfl ?_
        refine j_iload_n X jd_Re_joined_98 rfl rfl ?_
        refine j_isub X jd_Re_joined_99 ?_
        exact j_iret X rfl jd_Re_joined_100 h
      · refine j_ite h (fun e4 h => ?_) (fun e4 h => ?_)
        · refine j_lookIn (tgt := 60) (off := 59) X jd_Re_joined_1 e4 (by decide) (by decide) rfl ?_
          refine j_iload_n X jd_Re_joined_60 rfl rfl ?_
          refine j_iload_n X jd_Re_joined_61 rfl rfl ?_
          refine j_icmp_ge (tgt := 69) X jd_Re_joined_62 rfl h (fun h => ?_) (fun h => ?_)
          · refine j_iconst (v := 0) X jd_Re_joined_69 (by decide) ?_
            exact j_iret X rfl jd_Re_joined_70 h
          · refine j_iconst (v := 1) X jd_Re_joined_65 (by decide) ?_
            refine j_goto (tgt := 70) X jd_Re_joined_66 rfl ?_
            exact j_iret X rfl jd_Re_joined_70 h
        · refine j_ite h (fun e5 h => ?_) (fun e5 h => ?_)
          · refine j_lookIn (tgt := 71) (off := 70) X jd_Re_joined_1 e5 (by decide) (by decide) rfl ?_
            refine j_iload_n X jd_Re_joined_71 rfl rfl ?_
            refine j_iload_n X jd_Re_joined_72 rfl rfl ?_
            refine j_icmp_ne (tgt := 80) X jd_Re_joined_73 rfl h (fun h => ?_) (fun h => ?_)
            · refine j_iconst (v := 1) X jd_Re_joined_76 (by decide) ?_
              refine j_goto (tgt := 81) X jd_Re_joined_77 rfl ?_
              exact j_iret X rfl jd_Re_joined_81 h
            · refine j_iconst (v := 0) X jd_Re_joined_80 (by decide) ?_
              exact j_iret X rfl jd_Re_joined_81 h
          · refine j_ite h (fun e6 h => ?_) (fun e6 h => ?_)
            · refine j_lookIn (tgt := 82) (off := 81) X jd_Re_joined_1 e6 (by decide) (by decide) rfl ?_
              refine j_iload_n X jd_Re_joined_82 rfl rfl ?_
              refine j_iload_n X jd_Re_joined_83 rfl rfl ?_
              refine j_icmp_le (tgt := 91) X jd_Re_joined_84 rfl h (fun h => ?_) (fun h => ?_)
              · refine j_iconst (v := 0) X jd_Re_joined_91 (by decide) ?_
                exact j_iret X rfl jd_Re_joined_92 h
              · refine j_iconst (v := 1) X jd_Re_joined_87 (by decide) ?_
                refine j_goto (tgt := 92) X jd_Re_joined_88 rfl ?_
                exact j_iret X rfl jd_Re_joined_92 h
            · refine j_lookOut (tgt := 105) X [42, 43, 45, 60, 61, 62] jd_Re_joined_1 (j_allc e1 (j_allc e2 (j_allc e3 (j_allc e4 (j_allc e5 (j_allc e6 j_all0)))))) (by decide) (by decide) rfl ?_
              refine j_iload_n X jd_Re_joined_105 rfl rfl ?_
              refine j_if_ne (tgt := 113) X jd_Re_joined_106 rfl h (fun h => ?_) (fun h => ?_)
              · refine j_iconst (v := 0) X jd_Re_joined_109 (by decide) ?_
                refine j_goto (tgt := 116) X jd_Re_joined_110 rfl ?_
                exact j_iret X rfl jd_Re_joined_116 h
              · refine j_iload_n X jd_Re_joined_113 rfl rfl ?_
                refine j_iload_n X jd_Re_joined_114 rfl rfl ?_
                refine j_idiv X jd_Re_joined_115 h (fun h => ?_)
                exact j_iret X rfl jd_Re_joined_116 h
-- PleasureGarden$Reader.take(C)Z
theorem jd_Re_take_0 : decode jb_Re_take 0 = .ok (.aload_n 0, 1) := by decide +kernel
theorem jd_Re_take_1 : decode jb_Re_take 1 = .ok (.invokevirtual 48, 3) := by decide +kernel
theorem jd_Re_take_4 : decode jb_Re_take 4 = .ok (.iload_n 1, 1) := by decide +kernel
theorem jd_Re_take_5 : decode jb_Re_take 5 = .ok (.if_icmp .eq 5, 3) := by decide +kernel
theorem jd_Re_take_8 : decode jb_Re_take 8 = .ok (.iconst 0, 1) := by decide +kernel
theorem jd_Re_take_9 : decode jb_Re_take 9 = .ok (.ireturn, 1) := by decide +kernel
theorem jd_Re_take_10 : decode jb_Re_take 10 = .ok (.aload_n 0, 1) := by decide +kernel
theorem jd_Re_take_11 : decode jb_Re_take 11 = .ok (.dup, 1) := by decide +kernel
theorem jd_Re_take_12 : decode jb_Re_take 12 = .ok (.getfield 27, 3) := by decide +kernel
theorem jd_Re_take_15 : decode jb_Re_take 15 = .ok (.iconst 1, 1) := by decide +kernel
theorem jd_Re_take_16 : decode jb_Re_take 16 = .ok (.iadd, 1) := by decide +kernel
theorem jd_Re_take_17 : decode jb_Re_take 17 = .ok (.putfield 27, 3) := by decide +kernel
theorem jd_Re_take_20 : decode jb_Re_take 20 = .ok (.iconst 1, 1) := by decide +kernel
theorem jd_Re_take_21 : decode jb_Re_take 21 = .ok (.ireturn, 1) := by decide +kernel
def f_Re_take (F : Nat) (x1 : Int32) (I : j_M) : Option (Int32 × j_M) := j_bd (f_Re_next F I) (fun v1 I2 => (if v1 = x1 then j_let (j_wr I2 208 5 ((I2 208 5) + 1)) (fun I3 => some (1, I3)) else some (0, I2)))
set_option maxRecDepth 100000 in
set_option maxHeartbeats 4000000 in
theorem k_Re_take {l : Launch} {g : j_G} {b n : Nat} {P : j_R} {F : Nat} (hF : j_Fx 0 260 P) (hn : 260 ≤ n) {x1 : Int32} {I : j_M} {r : Int32 × j_M}  (h : f_Re_take F x1 I = some r) : j_Met l g b n P 1 jy_Re_take jb_Re_take 2 (some .boolean) [.ref (b + 208), .int x1] I r.2 (some (.int r.1)) := by
  unfold f_Re_take at h
  refine j_enter (plainFor_of_name (by decide)) (Nat.le_of_ble_eq_true rfl) [some (.ref (b + 208)), some (.int x1)] rfl ?_
  intro p e R s m args below meth c X0 hnm hRc hRs
  have X : j_X p R s m args meth c g b 1 jb_Re_take 2 "PleasureGarden$Reader" (some .boolean) := X0
  clear X0
  refine j_aload_n X jd_Re_take_0 rfl rfl ?_
  refine j_callVi (As := []) (st := []) (c0 := 208) X h jc_Re js_208 (j_lt rfl hn) ⟨jqc_Re_next, jqi_Re_next, jqv_Re_next, jqn_Re⟩ jlm_Re_48 jh_Re_next rfl (by decide) (by decide) (Nat.le_of_ble_eq_true rfl) ⟨Nat.zero_le _, Nat.zero_le _⟩ (fun v0 I0 h => k_Re_next (r := (v0, I0)) hF hn h) jd_Re_take_1 rfl (fun v1 I2 h => ?_)
  refine j_iload_n X jd_Re_take_4 rfl rfl ?_
  refine j_icmp_eq (tgt := 10) X jd_Re_take_5 rfl h (fun h => ?_) (fun h => ?_)
  · refine j_aload_n X jd_Re_take_10 rfl rfl ?_
    refine j_dup X jd_Re_take_11 rfl ?_
    refine j_get X jf_Re_27 jk_10_5 js_208 (j_lt rfl hn) jd_Re_take_12 ?_
    refine j_iconst (v := 1) X jd_Re_take_15 (by decide) ?_
    refine j_iadd X jd_Re_take_16 ?_
    refine j_puti X jt_Re jto_Re jn_Re jf_Re_27 jk_10_5 js_208 (j_lt rfl hn) (Or.inl rfl) rfl jd_Re_take_17 ?_
    refine j_mem h (fun I3 h => ?_)
    refine j_iconst (v := 1) X jd_Re_take_20 (by decide) ?_
    exact j_zret X rfl (by decide) jd_Re_take_21 h
  · refine j_iconst (v := 0) X jd_Re_take_8 (by decide) ?_
    exact j_zret X rfl (by decide) jd_Re_take_9 h
-- PleasureGarden$Reader.number()I
theorem jd_Re_number_0 : decode jb_Re_number 0 = .ok (.iconst 0, 1) := by decide +kernel
theorem jd_Re_number_1 : decode jb_Re_number 1 = .ok (.istore_n 1, 1) := by decide +kernel
theorem jd_Re_number_2 : decode jb_Re_number 2 = .ok (.iconst 0, 1) := by decide +kernel
theorem jd_Re_number_3 : decode jb_Re_number 3 = .ok (.istore_n 2, 1) := by decide +kernel
theorem jd_Re_number_4 : decode jb_Re_number 4 = .ok (.iload_n 2, 1) := by decide +kernel
theorem jd_Re_number_5 : decode jb_Re_number 5 = .ok (.iconst 5, 1) := by decide +kernel
theorem jd_Re_number_6 : decode jb_Re_number 6 = .ok (.if_icmp .ge 42, 3) := by decide +kernel
theorem jd_Re_number_9 : decode jb_Re_number 9 = .ok (.aload_n 0, 1) := by decide +kernel
theorem jd_Re_number_10 : decode jb_Re_number 10 = .ok (.invokevirtual 48, 3) := by decide +kernel
theorem jd_Re_number_13 : decode jb_Re_number 13 = .ok (.invokestatic 63, 3) := by decide +kernel
theorem jd_Re_number_16 : decode jb_Re_number 16 = .ok (.ifCond .eq 32, 3) := by decide +kernel
theorem jd_Re_number_19 : decode jb_Re_number 19 = .ok (.iload_n 1, 1) := by decide +kernel
theorem jd_Re_number_20 : decode jb_Re_number 20 = .ok (.bipush 10, 2) := by decide +kernel
theorem jd_Re_number_22 : decode jb_Re_number 22 = .ok (.imul, 1) := by decide +kernel
theorem jd_Re_number_23 : decode jb_Re_number 23 = .ok (.aload_n 0, 1) := by decide +kernel
theorem jd_Re_number_24 : decode jb_Re_number 24 = .ok (.invokevirtual 48, 3) := by decide +kernel
theorem jd_Re_number_27 : decode jb_Re_number 27 = .ok (.iadd, 1) := by decide +kernel
theorem jd_Re_number_28 : decode jb_Re_number 28 = .ok (.bipush 48, 2) := by decide +kernel
theorem jd_Re_number_30 : decode jb_Re_number 30 = .ok (.isub, 1) := by decide +kernel
theorem jd_Re_number_31 : decode jb_Re_number 31 = .ok (.istore_n 1, 1) := by decide +kernel
theorem jd_Re_number_32 : decode jb_Re_number 32 = .ok (.aload_n 0, 1) := by decide +kernel
theorem jd_Re_number_33 : decode jb_Re_number 33 = .ok (.dup, 1) := by decide +kernel
theorem jd_Re_number_34 : decode jb_Re_number 34 = .ok (.getfield 27, 3) := by decide +kernel
theorem jd_Re_number_37 : decode jb_Re_number 37 = .ok (.iconst 1, 1) := by decide +kernel
theorem jd_Re_number_38 : decode jb_Re_number 38 = .ok (.iadd, 1) := by decide +kernel
theorem jd_Re_number_39 : decode jb_Re_number 39 = .ok (.putfield 27, 3) := by decide +kernel
theorem jd_Re_number_42 : decode jb_Re_number 42 = .ok (.iinc 2 1, 3) := by decide +kernel
theorem jd_Re_number_45 : decode jb_Re_number 45 = .ok (.goto (-41), 3) := by decide +kernel
theorem jd_Re_number_48 : decode jb_Re_number 48 = .ok (.iload_n 1, 1) := by decide +kernel
theorem jd_Re_number_49 : decode jb_Re_number 49 = .ok (.ireturn, 1) := by decide +kernel
def f_Re_number_4b (F : Nat) (kb4 : Int32 → Int32 → j_M → Option (Int32 × j_M)) (x1 : Int32) (x2 : Int32) (I : j_M) : Option (Int32 × j_M) := (if 5 ≤ x2 then some (x1, I) else j_bd (f_Re_next F I) (fun v1 I2 => j_bd (f_Re_isDigit F v1 I2) (fun v3 I4 => (if v3 = 0 then some (x1, I4) else j_bd (f_Re_next F I4) (fun v5 I6 => j_let (((x1 * 10) + v5) - 48) (fun v7 => j_let (j_wr I6 208 5 ((I6 208 5) + 1)) (fun I8 => j_let (x2 + 1) (fun v9 => kb4 v7 v9 I8))))))))
def f_Re_number_4 (F : Nat)  (x1 : Int32) (x2 : Int32) (I : j_M) : Option (Int32 × j_M) := j_it (fun (again : Int32 × Int32 × j_M → Option (Int32 × j_M)) (q : Int32 × Int32 × j_M) => f_Re_number_4b F  (fun x1 x2 I => again (x1, x2, I))  q.1 q.2.1 q.2.2) F (x1, x2, I)
def f_Re_number (F : Nat)  (I : j_M) : Option (Int32 × j_M) := f_Re_number_4 F 0 0 I
set_option maxRecDepth 100000 in
set_option maxHeartbeats 4000000 in
theorem k_Re_number_4b {p : Program} {l : Launch} {e : Env} {R : Room} {s : State} {m : MethodId} {args : Array Value} {below : List Frame} {meth : Method} {c : Code} {g : j_G} {b n : Nat} {P : j_R} {F : Nat} (hF : j_Fx 0 260 P) (hn : 260 ≤ n) (X : j_X p R s m args meth c g b 1 jb_Re_number 3 "PleasureGarden$Reader" (some .int)) {kb4 : Int32 → Int32 → j_M → Option (Int32 × j_M)} (hkb4 : ∀ (x1 : Int32) (x2 : Int32) (I : j_M) (r : Int32 × j_M), kb4 x1 x2 I = some r → j_W p l e R s m args below meth c 3 g b n 0 0 (j_Qi g b n P below args s r) I P 4 [some (.ref (b + 208)), some (.int x1), some (.int x2)] []) {x1 : Int32} {x2 : Int32} {I : j_M} {r : Int32 × j_M}  (h : f_Re_number_4b F kb4 x1 x2 I = some r) : j_W p l e R s m args below meth c 3 g b n 0 0 (j_Qi g b n P below args s r) I P 4 [some (.ref (b + 208)), some (.int x1), some (.int x2)] [] := by
  unfold f_Re_number_4b at h
  refine j_iload_n X jd_Re_number_4 rfl rfl ?_
  refine j_iconst (v := 5) X jd_Re_number_5 (by decide) ?_
  refine j_icmp_ge (tgt := 48) X jd_Re_number_6 rfl h (fun h => ?_) (fun h => ?_)
  · refine j_iload_n X jd_Re_number_48 rfl rfl ?_
    exact j_iret X rfl jd_Re_number_49 h
  · refine j_aload_n X jd_Re_number_9 rfl rfl ?_
    refine j_callVi (As := []) (st := []) (c0 := 208) X h jc_Re js_208 (j_lt rfl hn) ⟨jqc_Re_next, jqi_Re_next, jqv_Re_next, jqn_Re⟩ jlm_Re_48 jh_Re_next rfl (by decide) (by decide) (Nat.le_of_ble_eq_true rfl) ⟨Nat.zero_le _, Nat.zero_le _⟩ (fun v0 I0 h => k_Re_next (r := (v0, I0)) hF hn h) jd_Re_number_10 rfl (fun v1 I2 h => ?_)
    refine j_callSi (As := [.int v1]) (st := []) X h ⟨jqc_Re_isDigit, jqs_Re_isDigit, jqn_Re⟩ jlm_Re_63 jh_Re_isDigit.2 rfl (by decide) (by decide) (Nat.le_of_ble_eq_true rfl) ⟨Nat.zero_le _, Nat.zero_le _⟩ (fun v0 I0 h => k_Re_isDigit (r := (v0, I0)) hF hn h) jd_Re_number_13 rfl (fun v3 I4 h => ?_)
    refine j_if_eq (tgt := 48) X jd_Re_number_16 rfl h (fun h => ?_) (fun h => ?_)
    · refine j_iload_n X jd_Re_number_48 rfl rfl ?_
      exact j_iret X rfl jd_Re_number_49 h
    · refine j_iload_n X jd_Re_number_19 rfl rfl ?_
      refine j_bipush (v := 10) X jd_Re_number_20 (by decide) ?_
      refine j_imul X jd_Re_number_22 ?_
      refine j_aload_n X jd_Re_number_23 rfl rfl ?_
      refine j_callVi (As := []) (st := [.int (x1 * 10)]) (c0 := 208) X h jc_Re js_208 (j_lt rfl hn) ⟨jqc_Re_next, jqi_Re_next, jqv_Re_next, jqn_Re⟩ jlm_Re_48 jh_Re_next rfl (by decide) (by decide) (Nat.le_of_ble_eq_true rfl) ⟨Nat.zero_le _, Nat.zero_le _⟩ (fun v0 I0 h => k_Re_next (r := (v0, I0)) hF hn h) jd_Re_number_24 rfl (fun v5 I6 h => ?_)
      refine j_iadd X jd_Re_number_27 ?_
      refine j_bipush (v := 48) X jd_Re_number_28 (by decide) ?_
      refine j_isub X jd_Re_number_30 ?_
      refine j_nm h (fun v7 h => ?_)
      refine j_istore_n (lv' := [some (.ref (b + 208)), some (.int v7), some (.int x2)]) X jd_Re_number_31 rfl (by decide) rfl ?_
      refine j_aload_n X jd_Re_number_32 rfl rfl ?_
      refine j_dup X jd_Re_number_33 rfl ?_
      refine j_get X jf_Re_27 jk_10_5 js_208 (j_lt rfl hn) jd_Re_number_34 ?_
      refine j_iconst (v := 1) X jd_Re_number_37 (by decide) ?_
      refine j_iadd X jd_Re_number_38 ?_
      refine j_puti X jt_Re jto_Re jn_Re jf_Re_27 jk_10_5 js_208 (j_lt rfl hn) (Or.inl rfl) rfl jd_Re_number_39 ?_
      refine j_mem h (fun I8 h => ?_)
      obtain ⟨v9, ev9, h⟩ := j_ex h
      refine j_iinc (v := v9) (lv' := [some (.ref (b + 208)), some (.int v7), some (.int v9)]) X jd_Re_number_42 rfl (by rw [ev9]; rfl) (by decide) rfl ?_
      refine j_goto (tgt := 4) X jd_Re_number_45 rfl ?_
      exact hkb4 _ _ _ _ h
set_option maxRecDepth 100000 in
set_option maxHeartbeats 4000000 in
theorem k_Re_number_4 {p : Program} {l : Launch} {e : Env} {R : Room} {s : State} {m : MethodId} {args : Array Value} {below : List Frame} {meth : Method} {c : Code} {g : j_G} {b n : Nat} {P : j_R} {F : Nat} (hF : j_Fx 0 260 P) (hn : 260 ≤ n) (X : j_X p R s m args meth c g b 1 jb_Re_number 3 "PleasureGarden$Reader" (some .int))  {x1 : Int32} {x2 : Int32} {I : j_M} {r : Int32 × j_M} (h : f_Re_number_4 F x1 x2 I = some r) : j_W p l e R s m args below meth c 3 g b n 0 0 (j_Qi g b n P below args s r) I P 4 [some (.ref (b + 208)), some (.int x1), some (.int x2)] [] := by
  refine j_loop (G := fun (q : Int32 × Int32 × j_M) (r : Int32 × j_M) => j_W p l e R s m args below meth c 3 g b n 0 0 (j_Qi g b n P below args s r) q.2.2 P 4 [some (.ref (b + 208)), some (.int (q.1)), some (.int (q.2.1))] []) ?_ F (x1, x2, I) r h
  intro again hrec0 q r h
  exact k_Re_number_4b hF hn X (fun x1 x2 I r h => hrec0 (x1, x2, I) r h)  h
set_option maxRecDepth 100000 in
set_option maxHeartbeats 4000000 in
theorem k_Re_number {l : Launch} {g : j_G} {b n : Nat} {P : j_R} {F : Nat} (hF : j_Fx 0 260 P) (hn : 260 ≤ n)  {I : j_M} {r : Int32 × j_M}  (h : f_Re_number F I = some r) : j_Met l g b n P 1 jy_Re_number jb_Re_number 3 (some .int) [.ref (b + 208)] I r.2 (some (.int r.1)) := by
  unfold f_Re_number at h
  refine j_enter (plainFor_of_name (by decide)) (Nat.le_of_ble_eq_true rfl) [some (.ref (b + 208)), none, none] rfl ?_
  intro p e R s m args below meth c X0 hnm hRc hRs
  have X : j_X p R s m args meth c g b 1 jb_Re_number 3 "PleasureGarden$Reader" (some .int) := X0
  clear X0
  refine j_iconst (v := 0) X jd_Re_number_0 (by decide) ?_
  refine j_istore_n (lv' := [some (.ref (b + 208)), some (.int 0), none]) X jd_Re_number_1 rfl (by decide) rfl ?_
  refine j_iconst (v := 0) X jd_Re_number_2 (by decide) ?_
  refine j_istore_n (lv' := [some (.ref (b + 208)), some (.int 0), some (.int 0)]) X jd_Re_number_3 rfl (by decide) rfl ?_
  exact k_Re_number_4 hF hn X h
-- PleasureGarden$Reader.expression(II)I
theorem jd_Re_expression_0 : decode jb_Re_expression 0 = .ok (.iload_n 1, 1) := by decide +kernel
theorem jd_Re_expression_1 : decode jb_Re_expression 1 = .ok (.iconst 2, 1) := by decide +kernel
theorem jd_Re_expression_2 : decode jb_Re_expression 2 = .ok (.if_icmp .le 9, 3) := by decide +kernel
theorem jd_Re_expression_5 : decode jb_Re_expression 5 = .ok (.aload_n 0, 1) := by decide +kernel
theorem jd_Re_expression_6 : decode jb_Re_expression 6 = .ok (.iload_n 2, 1) := by decide +kernel
theorem jd_Re_expression_7 : decode jb_Re_expression 7 = .ok (.invokevirtual 52, 3) := by decide +kernel
theorem jd_Re_expression_10 : decode jb_Re_expression 10 = .ok (.ireturn, 1) := by decide +kernel
theorem jd_Re_expression_11 : decode jb_Re_expression 11 = .ok (.aload_n 0, 1) := by decide +kernel
theorem jd_Re_expression_12 : decode jb_Re_expression 12 = .ok (.iload_n 1, 1) := by decide +kernel
theorem jd_Re_expression_13 : decode jb_Re_expression 13 = .ok (.iconst 1, 1) := by decide +kernel
theorem jd_Re_expression_14 : decode jb_Re_expression 14 = .ok (.iadd, 1) := by decide +kernel
theorem jd_Re_expression_15 : decode jb_Re_expression 15 = .ok (.iload_n 2, 1) := by decide +kernel
theorem jd_Re_expression_16 : decode jb_Re_expression 16 = .ok (.invokevirtual 38, 3) := by decide +kernel
theorem jd_Re_expression_19 : decode jb_Re_expression 19 = .ok (.istore_n 3, 1) := by decide +kernel
theorem jd_Re_expression_20 : decode jb_Re_expression 20 = .ok (.iload_n 1, 1) := by decide +kernel
theorem jd_Re_expression_21 : decode jb_Re_expression 21 = .ok (.ifCond .ne 7, 3) := by decide +kernel
theorem jd_Re_expression_24 : decode jb_Re_expression 24 = .ok (.iconst 1, 1) := by decide +kernel
theorem jd_Re_expression_25 : decode jb_Re_expression 25 = .ok (.goto 5, 3) := by decide +kernel
theorem jd_Re_expression_28 : decode jb_Re_expression 28 = .ok (.bipush 120, 2) := by decide +kernel
theorem jd_Re_expression_30 : decode jb_Re_expression 30 = .ok (.istore 4, 2) := by decide +kernel
theorem jd_Re_expression_32 : decode jb_Re_expression 32 = .ok (.iconst 0, 1) := by decide +kernel
theorem jd_Re_expression_33 : decode jb_Re_expression 33 = .ok (.istore 5, 2) := by decide +kernel
theorem jd_Re_expression_35 : decode jb_Re_expression 35 = .ok (.iload 5, 2) := by decide +kernel
theorem jd_Re_expression_37 : decode jb_Re_expression 37 = .ok (.iload 4, 2) := by decide +kernel
theorem jd_Re_expression_39 : decode jb_Re_expression 39 = .ok (.if_icmp .ge 51, 3) := by decide +kernel
theorem jd_Re_expression_42 : decode jb_Re_expression 42 = .ok (.aload_n 0, 1) := by decide +kernel
theorem jd_Re_expression_43 : decode jb_Re_expression 43 = .ok (.invokevirtual 48, 3) := by decide +kernel
theorem jd_Re_expression_46 : decode jb_Re_expression 46 = .ok (.invokestatic 56, 3) := by decide +kernel
theorem jd_Re_expression_49 : decode jb_Re_expression 49 = .ok (.iload_n 1, 1) := by decide +kernel
theorem jd_Re_expression_50 : decode jb_Re_expression 50 = .ok (.if_icmp .ne 40, 3) := by decide +kernel
theorem jd_Re_expression_53 : decode jb_Re_expression 53 = .ok (.aload_n 0, 1) := by decide +kernel
theorem jd_Re_expression_54 : decode jb_Re_expression 54 = .ok (.invokevirtual 48, 3) := by decide +kernel
theorem jd_Re_expression_57 : decode jb_Re_expression 57 = .ok (.istore 6, 2) := by decide +kernel
theorem jd_Re_expression_59 : decode jb_Re_expression 59 = .ok (.aload_n 0, 1) := by decide +kernel
theorem jd_Re_expression_60 : decode jb_Re_expression 60 = .ok (.dup, 1) := by decide +kernel
theorem jd_Re_expression_61 : decode jb_Re_expression 61 = .ok (.getfield 27, 3) := by decide +kernel
theorem jd_Re_expression_64 : decode jb_Re_expression 64 = .ok (.iconst 1, 1) := by decide +kernel
theorem jd_Re_expression_65 : decode jb_Re_expression 65 = .ok (.iadd, 1) := by decide +kernel
theorem jd_Re_expression_66 : decode jb_Re_expression 66 = .ok (.putfield 27, 3) := by decide +kernel
theorem jd_Re_expression_69 : decode jb_Re_expression 69 = .ok (.iload_n 3, 1) := by decide +kernel
theorem jd_Re_expression_70 : decode jb_Re_expression 70 = .ok (.iload 6, 2) := by decide +kernel
theorem jd_Re_expression_72 : decode jb_Re_expression 72 = .ok (.aload_n 0, 1) := by decide +kernel
theorem jd_Re_expression_73 : decode jb_Re_expression 73 = .ok (.iload_n 1, 1) := by decide +kernel
theorem jd_Re_expression_74 : decode jb_Re_expression 74 = .ok (.iconst 1, 1) := by decide +kernel
theorem jd_Re_expression_75 : decode jb_Re_expression 75 = .ok (.iadd, 1) := by decide +kernel
theorem jd_Re_expression_76 : decode jb_Re_expression 76 = .ok (.iload_n 2, 1) := by decide +kernel
theorem jd_Re_expression_77 : decode jb_Re_expression 77 = .ok (.invokevirtual 38, 3) := by decide +kernel
theorem jd_Re_expression_80 : decode jb_Re_expression 80 = .ok (.invokestatic 59, 3) := by decide +kernel
theorem jd_Re_expression_83 : decode jb_Re_expression 83 = .ok (.istore_n 3, 1) := by decide +kernel
theorem jd_Re_expression_84 : decode jb_Re_expression 84 = .ok (.iinc 5 1, 3) := by decide +kernel
theorem jd_Re_expression_87 : decode jb_Re_expression 87 = .ok (.goto (-52), 3) := by decide +kernel
theorem jd_Re_expression_90 : decode jb_Re_expression 90 = .ok (.iload_n 3, 1) := by decide +kernel
theorem jd_Re_expression_91 : decode jb_Re_expression 91 = .ok (.ireturn, 1) := by decide +kernel
def f_Re_expression_35b (F : Nat) (rec : Nat → Int32 → Int32 → j_M → Option (Int32 × j_M)) (kb35 : Int32 → Int32 → Int32 → Int32 → Int32 → j_M → Option (Int32 × j_M)) (x1 : Int32) (x2 : Int32) (x3 : Int32) (x4 : Int32) (x5 : Int32) (I : j_M) : Option (Int32 × j_M) := (if x4 ≤ x5 then some (x3, I) else j_bd (f_Re_next F I) (fun v1 I2 => j_bd (f_Re_levelOf F v1 I2) (fun v3 I4 => (if v3 = x1 then j_bd (f_Re_next F I4) (fun v5 I6 => j_let (j_wr I6 208 5 ((I6 208 5) + 1)) (fun I7 => j_bd (rec 0 (x1 + 1) x2 I7) (fun v8 I9 => j_bd (f_Re_joined F x3 v5 v8 I9) (fun v10 I11 => j_let (x5 + 1) (fun v12 => kb35 x1 x2 v10 x4 v12 I11))))) else some (x3, I4)))))
def f_Re_expression_35 (F : Nat) (rec : Nat → Int32 → Int32 → j_M → Option (Int32 × j_M))  (x1 : Int32) (x2 : Int32) (x3 : Int32) (x4 : Int32) (x5 : Int32) (I : j_M) : Option (Int32 × j_M) := j_it (fun (again : Int32 × Int32 × Int32 × Int32 × Int32 × j_M → Option (Int32 × j_M)) (q : Int32 × Int32 × Int32 × Int32 × Int32 × j_M) => f_Re_expression_35b F rec (fun x1 x2 x3 x4 x5 I => again (x1, x2, x3, x4, x5, I))  q.1 q.2.1 q.2.2.1 q.2.2.2.1 q.2.2.2.2.1 q.2.2.2.2.2) F (x1, x2, x3, x4, x5, I)
def f_Re_expression_30 (F : Nat) (rec : Nat → Int32 → Int32 → j_M → Option (Int32 × j_M))  (x1 : Int32) (x2 : Int32) (x3 : Int32) (s0 : Int32) (I : j_M) : Option (Int32 × j_M) := f_Re_expression_35 F rec x1 x2 x3 s0 0 I
def f_Re_expression (F : Nat) (rec : Nat → Int32 → Int32 → j_M → Option (Int32 × j_M)) (x1 : Int32) (x2 : Int32) (I : j_M) : Option (Int32 × j_M) := (if x1 ≤ 2 then j_bd (rec 0 (x1 + 1) x2 I) (fun v13 I14 => (if x1 = 0 then f_Re_expression_30 F rec x1 x2 v13 1 I14 else f_Re_expression_30 F rec x1 x2 v13 120 I14)) else j_bd (rec 1 x2 0 I) (fun v15 I16 => some (v15, I16)))
set_option maxRecDepth 100000 in
set_option maxHeartbeats 4000000 in
theorem k_Re_expression_35b {p : Program} {l : Launch} {e : Env} {R : Room} {s : State} {m : MethodId} {args : Array Value} {below : List Frame} {meth : Method} {c : Code} {g : j_G} {b n : Nat} {P : j_R} {dd : Nat} {F : Nat} (hF : j_Fx 0 260 P) (hn : 260 ≤ n) (X : j_X p R s m args meth c g b (dd + 1) jb_Re_expression 7 "PleasureGarden$Reader" (some .int)) (hdd : 5 ≤ dd) {rec : Nat → Int32 → Int32 → j_M → Option (Int32 × j_M)} (hrec : ∀ (w : Nat) (x1 x2 : Int32) (I : j_M) (v : Int32) (I1 : j_M), rec w x1 x2 I = some (v, I1) → (w = 0 → j_Met l g b n P dd jy_Re_expression jb_Re_expression 7 (some .int) [.ref (b + 208), .int x1, .int x2] I I1 (some (.int v))) ∧ (w = 1 → j_Met l g b n P dd jy_Re_operand jb_Re_operand 4 (some .int) [.ref (b + 208), .int x1] I I1 (some (.int v)))) {kb35 : Int32 → Int32 → Int32 → Int32 → Int32 → j_M → Option (Int32 × j_M)} (hkb35 : ∀ (x1 : Int32) (x2 : Int32) (x3 : Int32) (x4 : Int32) (x5 : Int32) (I : j_M) (r : Int32 × j_M), kb35 x1 x2 x3 x4 x5 I = some r → j_W p l e R s m args below meth c 7 g b n 0 0 (j_Qi g b n P below args s r) I P 35 [some (.ref (b + 208)), some (.int x1), some (.int x2), some (.int x3), some (.int x4), some (.int x5), none] []) {x1 : Int32} {x2 : Int32} {x3 : Int32} {x4 : Int32} {x5 : Int32} {I : j_M} {r : Int32 × j_M}  (h : f_Re_expression_35b F rec kb35 x1 x2 x3 x4 x5 I = some r) : j_W p l e R s m args below meth c 7 g b n 0 0 (j_Qi g b n P below args s r) I P 35 [some (.ref (b + 208)), some (.int x1), some (.int x2), some (.int x3), some (.int x4), some (.int x5), none] [] := by
  unfold f_Re_expression_35b at h
  refine j_iload X jd_Re_expression_35 rfl ?_
  refine j_iload X jd_Re_expression_37 rfl ?_
  refine j_icmp_ge (tgt := 90) X jd_Re_expression_39 rfl h (fun h => ?_) (fun h => ?_)
  · refine j_iload_n X jd_Re_expression_90 rfl rfl ?_
    exact j_iret X rfl jd_Re_expression_91 h
  · refine j_aload_n X jd_Re_expression_42 rfl rfl ?_
    refine j_callVi (As := []) (st := []) (c0 := 208) X h jc_Re js_208 (j_lt rfl hn) ⟨jqc_Re_next, jqi_Re_next, jqv_Re_next, jqn_Re⟩ jlm_Re_48 jh_Re_next rfl (by omega) (by decide) (Nat.le_of_ble_eq_true rfl) ⟨Nat.zero_le _, Nat.zero_le _⟩ (fun v0 I0 h => k_Re_next (r := (v0, I0)) hF hn h) jd_Re_expression_43 rfl (fun v1 I2 h => ?_)
    refine j_callSi (As := [.int v1]) (st := []) X h ⟨jqc_Re_levelOf, jqs_Re_levelOf, jqn_Re⟩ jlm_Re_56 jh_Re_levelOf.2 rfl (by omega) (by decide) (Nat.le_of_ble_eq_true rfl) ⟨Nat.zero_le _, Nat.zero_le _⟩ (fun v0 I0 h => k_Re_levelOf (r := (v0, I0)) hF hn h) jd_Re_expression_46 rfl (fun v3 I4 h => ?_)
    refine j_iload_n X jd_Re_expression_49 rfl rfl ?_
    refine j_icmp_ne (tgt := 90) X jd_Re_expression_50 rfl h (fun h => ?_) (fun h => ?_)
    · refine j_aload_n X jd_Re_expression_53 rfl rfl ?_
      refine j_callVi (As := []) (st := []) (c0 := 208) X h jc_Re js_208 (j_lt rfl hn) ⟨jqc_Re_next, jqi_Re_next, jqv_Re_next, jqn_Re⟩ jlm_Re_48 jh_Re_next rfl (by omega) (by decide) (Nat.le_of_ble_eq_true rfl) ⟨Nat.zero_le _, Nat.zero_le _⟩ (fun v0 I0 h => k_Re_next (r := (v0, I0)) hF hn h) jd_Re_expression_54 rfl (fun v5 I6 h => ?_)
      refine j_istore (lv' := [some (.ref (b + 208)), some (.int x1), some (.int x2), some (.int x3), some (.int x4), some (.int x5), some (.int v5)]) X jd_Re_expression_57 (by decide) rfl ?_
      refine j_aload_n X jd_Re_expression_59 rfl rfl ?_
      refine j_dup X jd_Re_expression_60 rfl ?_
      refine j_get X jf_Re_27 jk_10_5 js_208 (j_lt rfl hn) jd_Re_expression_61 ?_
      refine j_iconst (v := 1) X jd_Re_expression_64 (by decide) ?_
      refine j_iadd X jd_Re_expression_65 ?_
      refine j_puti X jt_Re jto_Re jn_Re jf_Re_27 jk_10_5 js_208 (j_lt rfl hn) (Or.inl rfl) rfl jd_Re_expression_66 ?_
      refine j_mem h (fun I7 h => ?_)
      refine j_iload_n X jd_Re_expression_69 rfl rfl ?_
      refine j_iload X jd_Re_expression_70 rfl ?_
      refine j_aload_n X jd_Re_expression_72 rfl rfl ?_
      refine j_iload_n X jd_Re_expression_73 rfl rfl ?_
      refine j_iconst (v := 1) X jd_Re_expression_74 (by decide) ?_
      refine j_iadd X jd_Re_expression_75 ?_
      refine j_iload_n X jd_Re_expression_76 rfl rfl ?_
      refine j_callVi (As := [.int (x1 + 1), .int x2]) (st := [.int v5, .int x3]) (c0 := 208) X h jc_Re js_208 (j_lt rfl hn) ⟨jqc_Re_expression, jqi_Re_expression, jqv_Re_expression, jqn_Re⟩ jlm_Re_38 jh_Re_expression rfl (by omega) (by decide) (Nat.le_of_ble_eq_true rfl) ⟨Nat.zero_le _, Nat.zero_le _⟩ (fun v0 I0 h => (hrec _ _ _ _ _ _ h).1 rfl) jd_Re_expression_77 rfl (fun v8 I9 h => ?_)
      refine j_callSi (As := [.int x3, .int v5, .int v8]) (st := []) X h ⟨jqc_Re_joined, jqs_Re_joined, jqn_Re⟩ jlm_Re_59 jh_Re_joined.2 rfl (by omega) (by decide) (Nat.le_of_ble_eq_true rfl) ⟨Nat.zero_le _, Nat.zero_le _⟩ (fun v0 I0 h => k_Re_joined (r := (v0, I0)) hF hn h) jd_Re_expression_80 rfl (fun v10 I11 h => ?_)
      refine j_istore_n (lv' := [some (.ref (b + 208)), some (.int x1), some (.int x2), some (.int v10), some (.int x4), some (.int x5), some (.int v5)]) X jd_Re_expression_83 rfl (by decide) rfl ?_
      obtain ⟨v12, ev12, h⟩ := j_ex h
      refine j_iinc (v := v12) (lv' := [some (.ref (b + 208)), some (.int x1), some (.int x2), some (.int v10), some (.int x4), some (.int v12), some (.int v5)]) X jd_Re_expression_84 rfl (by rw [ev12]; rfl) (by decide) rfl ?_
      refine j_goto (tgt := 35) X jd_Re_expression_87 rfl ?_
      refine j_sub [true, true, true, true, true, true, false] (lv' := [some (.ref (b + 208)), some (.int x1), some (.int x2), some (.int v10), some (.int x4), some (.int v12), none]) rfl ?_
      exact hkb35 _ _ _ _ _ _ _ h
    · refine j_iload_n X jd_Re_expression_90 rfl rfl ?_
      exact j_iret X rfl jd_Re_expression_91 h
set_option maxRecDepth 100000 in
set_option maxHeartbeats 4000000 in
theorem k_Re_expression_35 {p : Program} {l : Launch} {e : Env} {R : Room} {s : State} {m : MethodId} {args : Array Value} {below : List Frame} {meth : Method} {c : Code} {g : j_G} {b n : Nat} {P : j_R} {dd : Nat} {F : Nat} (hF : j_Fx 0 260 P) (hn : 260 ≤ n) (X : j_X p R s m args meth c g b (dd + 1) jb_Re_expression 7 "PleasureGarden$Reader" (some .int)) (hdd : 5 ≤ dd) {rec : Nat → Int32 → Int32 → j_M → Option (Int32 × j_M)} (hrec : ∀ (w : Nat) (x1 x2 : Int32) (I : j_M) (v : Int32) (I1 : j_M), rec w x1 x2 I = some (v, I1) → (w = 0 → j_Met l g b n P dd jy_Re_expression jb_Re_expression 7 (some .int) [.ref (b + 208), .int x1, .int x2] I I1 (some (.int v))) ∧ (w = 1 → j_Met l g b n P dd jy_Re_operand jb_Re_operand 4 (some .int) [.ref (b + 208), .int x1] I I1 (some (.int v))))  {x1 : Int32} {x2 : Int32} {x3 : Int32} {x4 : Int32} {x5 : Int32} {I : j_M} {r : Int32 × j_M} (h : f_Re_expression_35 F rec x1 x2 x3 x4 x5 I = some r) : j_W p l e R s m args below meth c 7 g b n 0 0 (j_Qi g b n P below args s r) I P 35 [some (.ref (b + 208)), some (.int x1), some (.int x2), some (.int x3), some (.int x4), some (.int x5), none] [] := by
  refine j_loop (G := fun (q : Int32 × Int32 × Int32 × Int32 × Int32 × j_M) (r : Int32 × j_M) => j_W p l e R s m args below meth c 7 g b n 0 0 (j_Qi g b n P below args s r) q.2.2.2.2.2 P 35 [some (.ref (b + 208)), some (.int (q.1)), some (.int (q.2.1)), some (.int (q.2.2.1)), some (.int (q.2.2.2.1)), some (.int (q.2.2.2.2.1)), none] []) ?_ F (x1, x2, x3, x4, x5, I) r h
  intro again hrec0 q r h
  exact k_Re_expression_35b hF hn X hdd hrec (fun x1 x2 x3 x4 x5 I r h => hrec0 (x1, x2, x3, x4, x5, I) r h)  h
set_option maxRecDepth 100000 in
set_option maxHeartbeats 4000000 in
theorem k_Re_expression_30 {p : Program} {l : Launch} {e : Env} {R : Room} {s : State} {m : MethodId} {args : Array Value} {below : List Frame} {meth : Method} {c : Code} {g : j_G} {b n : Nat} {P : j_R} {dd : Nat} {F : Nat} (hF : j_Fx 0 260 P) (hn : 260 ≤ n) (X : j_X p R s m args meth c g b (dd + 1) jb_Re_expression 7 "PleasureGarden$Reader" (some .int)) (hdd : 5 ≤ dd) {rec : Nat → Int32 → Int32 → j_M → Option (Int32 × j_M)} (hrec : ∀ (w : Nat) (x1 x2 : Int32) (I : j_M) (v : Int32) (I1 : j_M), rec w x1 x2 I = some (v, I1) → (w = 0 → j_Met l g b n P dd jy_Re_expression jb_Re_expression 7 (some .int) [.ref (b + 208), .int x1, .int x2] I I1 (some (.int v))) ∧ (w = 1 → j_Met l g b n P dd jy_Re_operand jb_Re_operand 4 (some .int) [.ref (b + 208), .int x1] I I1 (some (.int v))))  {x1 : Int32} {x2 : Int32} {x3 : Int32} {s0 : Int32} {I : j_M} {r : Int32 × j_M}  (h : f_Re_expression_30 F rec x1 x2 x3 s0 I = some r) : j_W p l e R s m args below meth c 7 g b n 0 0 (j_Qi g b n P below args s r) I P 30 [some (.ref (b + 208)), some (.int x1), some (.int x2), some (.int x3), none, none, none] [.int s0] := by
  unfold f_Re_expression_30 at h
  refine j_istore (lv' := [some (.ref (b + 208)), some (.int x1), some (.int x2), some (.int x3), some (.int s0), none, none]) X jd_Re_expression_30 (by decide) rfl ?_
  refine j_iconst (v := 0) X jd_Re_expression_32 (by decide) ?_
  refine j_istore (lv' := [some (.ref (b + 208)), some (.int x1), some (.int x2), some (.int x3), some (.int s0), some (.int 0), none]) X jd_Re_expression_33 (by decide) rfl ?_
  exact k_Re_expression_35 hF hn X hdd hrec h
set_option maxRecDepth 100000 in
set_option maxHeartbeats 4000000 in
theorem k_Re_expression {l : Launch} {g : j_G} {b n : Nat} {P : j_R} {dd : Nat} {F : Nat} (hF : j_Fx 0 260 P) (hn : 260 ≤ n) (hdd : 5 ≤ dd) {rec : Nat → Int32 → Int32 → j_M → Option (Int32 × j_M)} (hrec : ∀ (w : Nat) (x1 x2 : Int32) (I : j_M) (v : Int32) (I1 : j_M), rec w x1 x2 I = some (v, I1) → (w = 0 → j_Met l g b n P dd jy_Re_expression jb_Re_expression 7 (some .int) [.ref (b + 208), .int x1, .int x2] I I1 (some (.int v))) ∧ (w = 1 → j_Met l g b n P dd jy_Re_operand jb_Re_operand 4 (some .int) [.ref (b + 208), .int x1] I I1 (some (.int v)))) {x1 : Int32} {x2 : Int32} {I : j_M} {r : Int32 × j_M}  (h : f_Re_expression F rec x1 x2 I = some r) : j_Met l g b n P (dd + 1) jy_Re_expression jb_Re_expression 7 (some .int) [.ref (b + 208), .int x1, .int x2] I r.2 (some (.int r.1)) := by
  unfold f_Re_expression at h
  refine j_enter (plainFor_of_name (by decide)) (Nat.le_of_ble_eq_true rfl) [some (.ref (b + 208)), some (.int x1), some (.int x2), none, none, none, none] rfl ?_
  intro p e R s m args below meth c X0 hnm hRc hRs
  have X : j_X p R s m args meth c g b (dd + 1) jb_Re_expression 7 "PleasureGarden$Reader" (some .int) := X0
  clear X0
  refine j_iload_n X jd_Re_expression_0 rfl rfl ?_
  refine j_iconst (v := 2) X jd_Re_expression_1 (by decide) ?_
  refine j_icmp_le (tgt := 11) X jd_Re_expression_2 rfl h (fun h => ?_) (fun h => ?_)
  · refine j_aload_n X jd_Re_expression_11 rfl rfl ?_
    refine j_iload_n X jd_Re_expression_12 rfl rfl ?_
    refine j_iconst (v := 1) X jd_Re_expression_13 (by decide) ?_
    refine j_iadd X jd_Re_expression_14 ?_
    refine j_iload_n X jd_Re_expression_15 rfl rfl ?_
    refine j_callVi (As := [.int (x1 + 1), .int x2]) (st := []) (c0 := 208) X h jc_Re js_208 (j_lt rfl hn) ⟨jqc_Re_expression, jqi_Re_expression, jqv_Re_expression, jqn_Re⟩ jlm_Re_38 jh_Re_expression rfl (by omega) (by decide) (Nat.le_of_ble_eq_true rfl) ⟨Nat.zero_le _, Nat.zero_le _⟩ (fun v0 I0 h => (hrec _ _ _ _ _ _ h).1 rfl) jd_Re_expression_16 rfl (fun v13 I14 h => ?_)
    refine j_istore_n (lv' := [some (.ref (b + 208)), some (.int x1), some (.int x2), some (.int v13), none, none, none]) X jd_Re_expression_19 rfl (by decide) rfl ?_
    refine j_iload_n X jd_Re_expression_20 rfl rfl ?_
    refine j_if_ne (tgt := 28) X jd_Re_expression_21 rfl h (fun h => ?_) (fun h => ?_)
    · refine j_iconst (v := 1) X jd_Re_expression_24 (by decide) ?_
      refine j_goto (tgt := 30) X jd_Re_expression_25 rfl ?_
      exact k_Re_expression_30 hF hn X hdd hrec h
    · refine j_bipush (v := 120) X jd_Re_expression_28 (by decide) ?_
      exact k_Re_expression_30 hF hn X hdd hrec h
  · refine j_aload_n X jd_Re_expression_5 rfl rfl ?_
    refine j_iload_n X jd_Re_expression_6 rfl rfl ?_
    refine j_callVi (As := [.int x2]) (st := []) (c0 := 208) X h jc_Re js_208 (j_lt rfl hn) ⟨jqc_Re_operand, jqi_Re_operand, jqv_Re_operand, jqn_Re⟩ jlm_Re_52 jh_Re_operand rfl (by omega) (by decide) (Nat.le_of_ble_eq_true rfl) ⟨Nat.zero_le _, Nat.zero_le _⟩ (fun v0 I0 h => (hrec _ _ _ _ _ _ h).2 rfl) jd_Re_expression_7 rfl (fun v15 I16 h => ?_)
    exact j_iret X rfl jd_Re_expression_10 h
-- PleasureGarden$Reader.operand(I)I
theorem jd_Re_operand_0 : decode jb_Re_operand 0 = .ok (.iload_n 1, 1) := by decide +kernel
theorem jd_Re_operand_1 : decode jb_Re_operand 1 = .ok (.bipush 8, 2) := by decide +kernel
theorem jd_Re_operand_3 : decode jb_Re_operand 3 = .ok (.if_icmp .ge 36, 3) := by decide +kernel
theorem jd_Re_operand_6 : decode jb_Re_operand 6 = .ok (.aload_n 0, 1) := by decide +kernel
theorem jd_Re_operand_7 : decode jb_Re_operand 7 = .ok (.bipush 40, 2) := by decide +kernel
theorem jd_Re_operand_9 : decode jb_Re_operand 9 = .ok (.invokevirtual 41, 3) := by decide +kernel
theorem jd_Re_operand_12 : decode jb_Re_operand 12 = .ok (.ifCond .eq 27, 3) := by decide +kernel
theorem jd_Re_operand_15 : decode jb_Re_operand 15 = .ok (.aload_n 0, 1) := by decide +kernel
theorem jd_Re_operand_16 : decode jb_Re_operand 16 = .ok (.iconst 0, 1) := by decide +kernel
theorem jd_Re_operand_17 : decode jb_Re_operand 17 = .ok (.iload_n 1, 1) := by decide +kernel
theorem jd_Re_operand_18 : decode jb_Re_operand 18 = .ok (.iconst 1, 1) := by decide +kernel
theorem jd_Re_operand_19 : decode jb_Re_operand 19 = .ok (.iadd, 1) := by decide +kernel
theorem jd_Re_operand_20 : decode jb_Re_operand 20 = .ok (.invokevirtual 38, 3) := by decide +kernel
theorem jd_Re_operand_23 : decode jb_Re_operand 23 = .ok (.istore_n 2, 1) := by decide +kernel
theorem jd_Re_operand_24 : decode jb_Re_operand 24 = .ok (.aload_n 0, 1) := by decide +kernel
theorem jd_Re_operand_25 : decode jb_Re_operand 25 = .ok (.bipush 41, 2) := by decide +kernel
theorem jd_Re_operand_27 : decode jb_Re_operand 27 = .ok (.invokevirtual 41, 3) := by decide +kernel
theorem jd_Re_operand_30 : decode jb_Re_operand 30 = .ok (.ifCond .ne 7, 3) := by decide +kernel
theorem jd_Re_operand_33 : decode jb_Re_operand 33 = .ok (.aload_n 0, 1) := by decide +kernel
theorem jd_Re_operand_34 : decode jb_Re_operand 34 = .ok (.invokevirtual 45, 3) := by decide +kernel
theorem jd_Re_operand_37 : decode jb_Re_operand 37 = .ok (.iload_n 2, 1) := by decide +kernel
theorem jd_Re_operand_38 : decode jb_Re_operand 38 = .ok (.ireturn, 1) := by decide +kernel
theorem jd_Re_operand_39 : decode jb_Re_operand 39 = .ok (.aload_n 0, 1) := by decide +kernel
theorem jd_Re_operand_40 : decode jb_Re_operand 40 = .ok (.invokevirtual 48, 3) := by decide +kernel
theorem jd_Re_operand_43 : decode jb_Re_operand 43 = .ok (.istore_n 2, 1) := by decide +kernel
theorem jd_Re_operand_44 : decode jb_Re_operand 44 = .ok (.iload_n 2, 1) := by decide +kernel
theorem jd_Re_operand_45 : decode jb_Re_operand 45 = .ok (.invokestatic 63, 3) := by decide +kernel
theorem jd_Re_operand_48 : decode jb_Re_operand 48 = .ok (.ifCond .eq 8, 3) := by decide +kernel
theorem jd_Re_operand_51 : decode jb_Re_operand 51 = .ok (.aload_n 0, 1) := by decide +kernel
theorem jd_Re_operand_52 : decode jb_Re_operand 52 = .ok (.invokevirtual 67, 3) := by decide +kernel
theorem jd_Re_operand_55 : decode jb_Re_operand 55 = .ok (.ireturn, 1) := by decide +kernel
theorem jd_Re_operand_56 : decode jb_Re_operand 56 = .ok (.iload_n 2, 1) := by decide +kernel
theorem jd_Re_operand_57 : decode jb_Re_operand 57 = .ok (.iconst (-1), 1) := by decide +kernel
theorem jd_Re_operand_58 : decode jb_Re_operand 58 = .ok (.if_icmp .ne 7, 3) := by decide +kernel
theorem jd_Re_operand_61 : decode jb_Re_operand 61 = .ok (.iconst (-1), 1) := by decide +kernel
theorem jd_Re_operand_62 : decode jb_Re_operand 62 = .ok (.goto 10, 3) := by decide +kernel
theorem jd_Re_operand_65 : decode jb_Re_operand 65 = .ok (.ldc 70, 2) := by decide +kernel
theorem jd_Re_operand_67 : decode jb_Re_operand 67 = .ok (.iload_n 2, 1) := by decide +kernel
theorem jd_Re_operand_68 : decode jb_Re_operand 68 = .ok (.i2c, 1) := by decide +kernel
theorem jd_Re_operand_69 : decode jb_Re_operand 69 = .ok (.invokevirtual 72, 3) := by decide +kernel
theorem jd_Re_operand_72 : decode jb_Re_operand 72 = .ok (.istore_n 3, 1) := by decide +kernel
theorem jd_Re_operand_73 : decode jb_Re_operand 73 = .ok (.iload_n 3, 1) := by decide +kernel
theorem jd_Re_operand_74 : decode jb_Re_operand 74 = .ok (.ifCond .lt 12, 3) := by decide +kernel
theorem jd_Re_operand_77 : decode jb_Re_operand 77 = .ok (.iload_n 3, 1) := by decide +kernel
theorem jd_Re_operand_78 : decode jb_Re_operand 78 = .ok (.aload_n 0, 1) := by decide +kernel
theorem jd_Re_operand_79 : decode jb_Re_operand 79 = .ok (.getfield 7, 3) := by decide +kernel
theorem jd_Re_operand_82 : decode jb_Re_operand 82 = .ok (.arraylength, 1) := by decide +kernel
theorem jd_Re_operand_83 : decode jb_Re_operand 83 = .ok (.if_icmp .lt 9, 3) := by decide +kernel
theorem jd_Re_operand_86 : decode jb_Re_operand 86 = .ok (.aload_n 0, 1) := by decide +kernel
theorem jd_Re_operand_87 : decode jb_Re_operand 87 = .ok (.invokevirtual 45, 3) := by decide +kernel
theorem jd_Re_operand_90 : decode jb_Re_operand 90 = .ok (.iconst 0, 1) := by decide +kernel
theorem jd_Re_operand_91 : decode jb_Re_operand 91 = .ok (.ireturn, 1) := by decide +kernel
theorem jd_Re_operand_92 : decode jb_Re_operand 92 = .ok (.aload_n 0, 1) := by decide +kernel
theorem jd_Re_operand_93 : decode jb_Re_operand 93 = .ok (.dup, 1) := by decide +kernel
theorem jd_Re_operand_94 : decode jb_Re_operand 94 = .ok (.getfield 27, 3) := by decide +kernel
theorem jd_Re_operand_97 : decode jb_Re_operand 97 = .ok (.iconst 1, 1) := by decide +kernel
theorem jd_Re_operand_98 : decode jb_Re_operand 98 = .ok (.iadd, 1) := by decide +kernel
theorem jd_Re_operand_99 : decode jb_Re_operand 99 = .ok (.putfield 27, 3) := by decide +kernel
theorem jd_Re_operand_102 : decode jb_Re_operand 102 = .ok (.aload_n 0, 1) := by decide +kernel
theorem jd_Re_operand_103 : decode jb_Re_operand 103 = .ok (.getfield 7, 3) := by decide +kernel
theorem jd_Re_operand_106 : decode jb_Re_operand 106 = .ok (.iload_n 3, 1) := by decide +kernel
theorem jd_Re_operand_107 : decode jb_Re_operand 107 = .ok (.iaload, 1) := by decide +kernel
theorem jd_Re_operand_108 : decode jb_Re_operand 108 = .ok (.ireturn, 1) := by decide +kernel
def f_Re_operand_86 (F : Nat) (rec : Nat → Int32 → Int32 → j_M → Option (Int32 × j_M))   (I : j_M) : Option (Int32 × j_M) := j_bd (f_Re_fail F I) (fun v1 I2 => some (0, I2))
def f_Re_operand_72 (F : Nat) (rec : Nat → Int32 → Int32 → j_M → Option (Int32 × j_M))  (s0 : Int32) (I : j_M) : Option (Int32 × j_M) := (if s0 < 0 then f_Re_operand_86 F rec I else (if s0 < 8 then j_let (j_wr I 208 5 ((I 208 5) + 1)) (fun I3 => (if j_ok s0 8 = true then some (I3 209 (j_ix s0), I3) else none)) else f_Re_operand_86 F rec I))
def f_Re_operand_39 (F : Nat) (rec : Nat → Int32 → Int32 → j_M → Option (Int32 × j_M))   (I : j_M) : Option (Int32 × j_M) := j_bd (f_Re_next F I) (fun v4 I5 => j_bd (f_Re_isDigit F v4 I5) (fun v6 I7 => (if v6 = 0 then (if v4 = (-1) then f_Re_operand_72 F rec (-1) I7 else j_bd (f_St_indexOf1 F ((v4.toUInt32 % 65536).toInt32) I7) (fun v8 I9 => f_Re_operand_72 F rec v8 I9)) else j_bd (f_Re_number F I7) (fun v10 I11 => some (v10, I11)))))
def f_Re_operand (F : Nat) (rec : Nat → Int32 → Int32 → j_M → Option (Int32 × j_M)) (x1 : Int32) (I : j_M) : Option (Int32 × j_M) := (if 8 ≤ x1 then f_Re_operand_39 F rec I else j_bd (f_Re_take F 40 I) (fun v12 I13 => (if v12 = 0 then f_Re_operand_39 F rec I13 else j_bd (rec 0 0 (x1 + 1) I13) (fun v14 I15 => j_bd (f_Re_take F 41 I15) (fun v16 I17 => (if v16 = 0 then j_bd (f_Re_fail F I17) (fun v18 I19 => some (v14, I19)) else some (v14, I17)))))))
set_option maxRecDepth 100000 in
set_option maxHeartbeats 4000000 in
theorem k_Re_operand_86 {p : Program} {l : Launch} {e : Env} {R : Room} {s : State} {m : MethodId} {args : Array Value} {below : List Frame} {meth : Method} {c : Code} {g : j_G} {b n : Nat} {P : j_R} {dd : Nat} {F : Nat} (hF : j_Fx 0 260 P) (hn : 260 ≤ n) (X : j_X p R s m args meth c g b (dd + 1) jb_Re_operand 4 "PleasureGarden$Reader" (some .int)) (hdd : 5 ≤ dd) {rec : Nat → Int32 → Int32 → j_M → Option (Int32 × j_M)} (hrec : ∀ (w : Nat) (x1 x2 : Int32) (I : j_M) (v : Int32) (I1 : j_M), rec w x1 x2 I = some (v, I1) → (w = 0 → j_Met l g b n P dd jy_Re_expression jb_Re_expression 7 (some .int) [.ref (b + 208), .int x1, .int x2] I I1 (some (.int v))) ∧ (w = 1 → j_Met l g b n P dd jy_Re_operand jb_Re_operand 4 (some .int) [.ref (b + 208), .int x1] I I1 (some (.int v))))   {I : j_M} {r : Int32 × j_M}  (h : f_Re_operand_86 F rec I = some r) : j_W p l e R s m args below meth c 4 g b n 0 0 (j_Qi g b n P below args s r) I P 86 [some (.ref (b + 208)), none, none, none] [] := by
  unfold f_Re_operand_86 at h
  refine j_aload_n X jd_Re_operand_86 rfl rfl ?_
  refine j_callVv (As := []) (st := []) (c0 := 208) X h jc_Re js_208 (j_lt rfl hn) ⟨jqc_Re_fail, jqi_Re_fail, jqv_Re_fail, jqn_Re⟩ jlm_Re_45 jh_Re_fail rfl (by omega) (by decide) (Nat.le_of_ble_eq_true rfl) ⟨Nat.zero_le _, Nat.zero_le _⟩ (fun v0 I0 h => k_Re_fail (r := (v0, I0)) hF hn h) jd_Re_operand_87 rfl (fun v1 I2 h => ?_)
  refine j_iconst (v := 0) X jd_Re_operand_90 (by decide) ?_
  exact j_iret X rfl jd_Re_operand_91 h
set_option maxRecDepth 100000 in
set_option maxHeartbeats 4000000 in
theorem k_Re_operand_72 {p : Program} {l : Launch} {e : Env} {R : Room} {s : State} {m : MethodId} {args : Array Value} {below : List Frame} {meth : Method} {c : Code} {g : j_G} {b n : Nat} {P : j_R} {dd : Nat} {F : Nat} (hF : j_Fx 0 260 P) (hn : 260 ≤ n) (X : j_X p R s m args meth c g b (dd + 1) jb_Re_operand 4 "PleasureGarden$Reader" (some .int)) (hdd : 5 ≤ dd) {rec : Nat → Int32 → Int32 → j_M → Option (Int32 × j_M)} (hrec : ∀ (w : Nat) (x1 x2 : Int32) (I : j_M) (v : Int32) (I1 : j_M), rec w x1 x2 I = some (v, I1) → (w = 0 → j_Met l g b n P dd jy_Re_expression jb_Re_expression 7 (some .int) [.ref (b + 208), .int x1, .int x2] I I1 (some (.int v))) ∧ (w = 1 → j_Met l g b n P dd jy_Re_operand jb_Re_operand 4 (some .int) [.ref (b + 208), .int x1] I I1 (some (.int v))))  {s0 : Int32} {I : j_M} {r : Int32 × j_M}  (h : f_Re_operand_72 F rec s0 I = some r) : j_W p l e R s m args below meth c 4 g b n 0 0 (j_Qi g b n P below args s r) I P 72 [some (.ref (b + 208)), none, none, none] [.int s0] := by
  unfold f_Re_operand_72 at h
  refine j_istore_n (lv' := [some (.ref (b + 208)), none, none, some (.int s0)]) X jd_Re_operand_72 rfl (by decide) rfl ?_
  refine j_iload_n X jd_Re_operand_73 rfl rfl ?_
  refine j_if_lt (tgt := 86) X jd_Re_operand_74 rfl h (fun h => ?_) (fun h => ?_)
  · refine j_sub [true, false, false, false] (lv' := [some (.ref (b + 208)), none, none, none]) rfl ?_
    exact k_Re_operand_86 hF hn X hdd hrec h
  · refine j_iload_n X jd_Re_operand_77 rfl rfl ?_
    refine j_aload_n X jd_Re_operand_78 rfl rfl ?_
    refine j_getr X jf_Re_7 jk_10_0 js_208 (j_lt rfl hn) (jp_208_0 hF) jd_Re_operand_79 ?_
    refine j_alen (v := 8) X rfl js_209 (j_lt rfl hn) jd_Re_operand_82 (by decide) ?_
    refine j_icmp_lt (tgt := 92) X jd_Re_operand_83 rfl h (fun h => ?_) (fun h => ?_)
    · refine j_aload_n X jd_Re_operand_92 rfl rfl ?_
      refine j_dup X jd_Re_operand_93 rfl ?_
      refine j_get X jf_Re_27 jk_10_5 js_208 (j_lt rfl hn) jd_Re_operand_94 ?_
      refine j_iconst (v := 1) X jd_Re_operand_97 (by decide) ?_
      refine j_iadd X jd_Re_operand_98 ?_
      refine j_puti X jt_Re jto_Re jn_Re jf_Re_27 jk_10_5 js_208 (j_lt rfl hn) (Or.inl rfl) rfl jd_Re_operand_99 ?_
      refine j_mem h (fun I3 h => ?_)
      refine j_aload_n X jd_Re_operand_102 rfl rfl ?_
      refine j_getr X jf_Re_7 jk_10_0 js_208 (j_lt rfl hn) (jp_208_0 hF) jd_Re_operand_103 ?_
      refine j_iload_n X jd_Re_operand_106 rfl rfl ?_
      refine j_iald X js_209 (j_lt rfl hn) jd_Re_operand_107 h (fun _ h => ?_)
      exact j_iret X rfl jd_Re_operand_108 h
    · refine j_sub [true, false, false, false] (lv' := [some (.ref (b + 208)), none, none, none]) rfl ?_
      exact k_Re_operand_86 hF hn X hdd hrec h
set_option maxRecDepth 100000 in
set_option maxHeartbeats 4000000 in
theorem k_Re_operand_39 {p : Program} {l : Launch} {e : Env} {R : Room} {s : State} {m : MethodId} {args : Array Value} {below : List Frame} {meth : Method} {c : Code} {g : j_G} {b n : Nat} {P : j_R} {dd : Nat} {F : Nat} (hF : j_Fx 0 260 P) (hn : 260 ≤ n) (X : j_X p R s m args meth c g b (dd + 1) jb_Re_operand 4 "PleasureGarden$Reader" (some .int)) (hdd : 5 ≤ dd) {rec : Nat → Int32 → Int32 → j_M → Option (Int32 × j_M)} (hrec : ∀ (w : Nat) (x1 x2 : Int32) (I : j_M) (v : Int32) (I1 : j_M), rec w x1 x2 I = some (v, I1) → (w = 0 → j_Met l g b n P dd jy_Re_expression jb_Re_expression 7 (some .int) [.ref (b + 208), .int x1, .int x2] I I1 (some (.int v))) ∧ (w = 1 → j_Met l g b n P dd jy_Re_operand jb_Re_operand 4 (some .int) [.ref (b + 208), .int x1] I I1 (some (.int v))))   {I : j_M} {r : Int32 × j_M}  (h : f_Re_operand_39 F rec I = some r) : j_W p l e R s m args below meth c 4 g b n 0 0 (j_Qi g b n P below args s r) I P 39 [some (.ref (b + 208)), none, none, none] [] := by
  unfold f_Re_operand_39 at h
  refine j_aload_n X jd_Re_operand_39 rfl rfl ?_
  refine j_callVi (As := []) (st := []) (c0 := 208) X h jc_Re js_208 (j_lt rfl hn) ⟨jqc_Re_next, jqi_Re_next, jqv_Re_next, jqn_Re⟩ jlm_Re_48 jh_Re_next rfl (by omega) (by decide) (Nat.le_of_ble_eq_true rfl) ⟨Nat.zero_le _, Nat.zero_le _⟩ (fun v0 I0 h => k_Re_next (r := (v0, I0)) hF hn h) jd_Re_operand_40 rfl (fun v4 I5 h => ?_)
  refine j_istore_n (lv' := [some (.ref (b + 208)), none, some (.int v4), none]) X jd_Re_operand_43 rfl (by decide) rfl ?_
  refine j_iload_n X jd_Re_operand_44 rfl rfl ?_
  refine j_callSi (As := [.int v4]) (st := []) X h ⟨jqc_Re_isDigit, jqs_Re_isDigit, jqn_Re⟩ jlm_Re_63 jh_Re_isDigit.2 rfl (by omega) (by decide) (Nat.le_of_ble_eq_true rfl) ⟨Nat.zero_le _, Nat.zero_le _⟩ (fun v0 I0 h => k_Re_isDigit (r := (v0, I0)) hF hn h) jd_Re_operand_45 rfl (fun v6 I7 h => ?_)
  refine j_if_eq (tgt := 56) X jd_Re_operand_48 rfl h (fun h => ?_) (fun h => ?_)
  · refine j_iload_n X jd_Re_operand_56 rfl rfl ?_
    refine j_iconst (v := (-1)) X jd_Re_operand_57 (by decide) ?_
    refine j_icmp_ne (tgt := 65) X jd_Re_operand_58 rfl h (fun h => ?_) (fun h => ?_)
    · refine j_iconst (v := (-1)) X jd_Re_operand_61 (by decide) ?_
      refine j_goto (tgt := 72) X jd_Re_operand_62 rfl ?_
      refine j_sub [true, false, false, false] (lv' := [some (.ref (b + 208)), none, none, none]) rfl ?_
      exact k_Re_operand_72 hF hn X hdd hrec h
    · refine j_ldcS X jd_Re_operand_65 ?_
      refine j_iload_n X jd_Re_operand_67 rfl rfl ?_
      refine j_i2c X jd_Re_operand_68 ?_
      refine j_callR (As := [.int ((v4.toUInt32 % 65536).toInt32)]) (st := []) X h ⟨jqc_St_indexOf1, jqi_St_indexOf1, jqv_St_indexOf1, jqn_St⟩ jlm_Re_72 jh_St_indexOf1 rfl (by omega) (by decide) (Nat.le_of_ble_eq_true rfl) ⟨Nat.zero_le _, Nat.zero_le _⟩ (fun v0 I0 h => k_St_indexOf1 (r := (v0, I0)) hF hn h) jd_Re_operand_69 rfl (fun v8 I9 h => ?_)
      refine j_sub [true, false, false, false] (lv' := [some (.ref (b + 208)), none, none, none]) rfl ?_
      exact k_Re_operand_72 hF hn X hdd hrec h
  · refine j_aload_n X jd_Re_operand_51 rfl rfl ?_
    refine j_callVi (As := []) (st := []) (c0 := 208) X h jc_Re js_208 (j_lt rfl hn) ⟨jqc_Re_number, jqi_Re_number, jqv_Re_number, jqn_Re⟩ jlm_Re_67 jh_Re_number rfl (by omega) (by decide) (Nat.le_of_ble_eq_true rfl) ⟨Nat.zero_le _, Nat.zero_le _⟩ (fun v0 I0 h => k_Re_number (r := (v0, I0)) hF hn h) jd_Re_operand_52 rfl (fun v10 I11 h => ?_)
    exact j_iret X rfl jd_Re_operand_55 h
set_option maxRecDepth 100000 in
set_option maxHeartbeats 4000000 in
theorem k_Re_operand {l : Launch} {g : j_G} {b n : Nat} {P : j_R} {dd : Nat} {F : Nat} (hF : j_Fx 0 260 P) (hn : 260 ≤ n) (hdd : 5 ≤ dd) {rec : Nat → Int32 → Int32 → j_M → Option (Int32 × j_M)} (hrec : ∀ (w : Nat) (x1 x2 : Int32) (I : j_M) (v : Int32) (I1 : j_M), rec w x1 x2 I = some (v, I1) → (w = 0 → j_Met l g b n P dd jy_Re_expression jb_Re_expression 7 (some .int) [.ref (b + 208), .int x1, .int x2] I I1 (some (.int v))) ∧ (w = 1 → j_Met l g b n P dd jy_Re_operand jb_Re_operand 4 (some .int) [.ref (b + 208), .int x1] I I1 (some (.int v)))) {x1 : Int32} {I : j_M} {r : Int32 × j_M}  (h : f_Re_operand F rec x1 I = some r) : j_Met l g b n P (dd + 1) jy_Re_operand jb_Re_operand 4 (some .int) [.ref (b + 208), .int x1] I r.2 (some (.int r.1)) := by
  unfold f_Re_operand at h
  refine j_enter (plainFor_of_name (by decide)) (Nat.le_of_ble_eq_true rfl) [some (.ref (b + 208)), some (.int x1), none, none] rfl ?_
  intro p e R s m args below meth c X0 hnm hRc hRs
  have X : j_X p R s m args meth c g b (dd + 1) jb_Re_operand 4 "PleasureGarden$Reader" (some .int) := X0
  clear X0
  refine j_iload_n X jd_Re_operand_0 rfl rfl ?_
  refine j_bipush (v := 8) X jd_Re_operand_1 (by decide) ?_
  refine j_icmp_ge (tgt := 39) X jd_Re_operand_3 rfl h (fun h => ?_) (fun h => ?_)
  · refine j_sub [true, false, false, false] (lv' := [some (.ref (b + 208)), none, none, none]) rfl ?_
    exact k_Re_operand_39 hF hn X hdd hrec h
  · refine j_aload_n X jd_Re_operand_6 rfl rfl ?_
    refine j_bipush (v := 40) X jd_Re_operand_7 (by decide) ?_
    refine j_callVi (As := [.int 40]) (st := []) (c0 := 208) X h jc_Re js_208 (j_lt rfl hn) ⟨jqc_Re_take, jqi_Re_take, jqv_Re_take, jqn_Re⟩ jlm_Re_41 jh_Re_take rfl (by omega) (by decide) (Nat.le_of_ble_eq_true rfl) ⟨Nat.zero_le _, Nat.zero_le _⟩ (fun v0 I0 h => k_Re_take (r := (v0, I0)) hF hn h) jd_Re_operand_9 rfl (fun v12 I13 h => ?_)
    refine j_if_eq (tgt := 39) X jd_Re_operand_12 rfl h (fun h => ?_) (fun h => ?_)
    · refine j_sub [true, false, false, false] (lv' := [some (.ref (b + 208)), none, none, none]) rfl ?_
      exact k_Re_operand_39 hF hn X hdd hrec h
    · refine j_aload_n X jd_Re_operand_15 rfl rfl ?_
      refine j_iconst (v := 0) X jd_Re_operand_16 (by decide) ?_
      refine j_iload_n X jd_Re_operand_17 rfl rfl ?_
      refine j_iconst (v := 1) X jd_Re_operand_18 (by decide) ?_
      refine j_iadd X jd_Re_operand_19 ?_
      refine j_callVi (As := [.int 0, .int (x1 + 1)]) (st := []) (c0 := 208) X h jc_Re js_208 (j_lt rfl hn) ⟨jqc_Re_expression, jqi_Re_expression, jqv_Re_expression, jqn_Re⟩ jlm_Re_38 jh_Re_expression rfl (by omega) (by decide) (Nat.le_of_ble_eq_true rfl) ⟨Nat.zero_le _, Nat.zero_le _⟩ (fun v0 I0 h => (hrec _ _ _ _ _ _ h).1 rfl) jd_Re_operand_20 rfl (fun v14 I15 h => ?_)
      refine j_istore_n (lv' := [some (.ref (b + 208)), some (.int x1), some (.int v14), none]) X jd_Re_operand_23 rfl (by decide) rfl ?_
      refine j_aload_n X jd_Re_operand_24 rfl rfl ?_
      refine j_bipush (v := 41) X jd_Re_operand_25 (by decide) ?_
      refine j_callVi (As := [.int 41]) (st := []) (c0 := 208) X h jc_Re js_208 (j_lt rfl hn) ⟨jqc_Re_take, jqi_Re_take, jqv_Re_take, jqn_Re⟩ jlm_Re_41 jh_Re_take rfl (by omega) (by decide) (Nat.le_of_ble_eq_true rfl) ⟨Nat.zero_le _, Nat.zero_le _⟩ (fun v0 I0 h => k_Re_take (r := (v0, I0)) hF hn h) jd_Re_operand_27 rfl (fun v16 I17 h => ?_)
      refine j_if_ne (tgt := 37) X jd_Re_operand_30 rfl h (fun h => ?_) (fun h => ?_)
      · refine j_aload_n X jd_Re_operand_33 rfl rfl ?_
        refine j_callVv (As := []) (st := []) (c0 := 208) X h jc_Re js_208 (j_lt rfl hn) ⟨jqc_Re_fail, jqi_Re_fail, jqv_Re_fail, jqn_Re⟩ jlm_Re_45 jh_Re_fail rfl (by omega) (by decide) (Nat.le_of_ble_eq_true rfl) ⟨Nat.zero_le _, Nat.zero_le _⟩ (fun v0 I0 h => k_Re_fail (r := (v0, I0)) hF hn h) jd_Re_operand_34 rfl (fun v18 I19 h => ?_)
        refine j_iload_n X jd_Re_operand_37 rfl rfl ?_
        exact j_iret X rfl jd_Re_operand_38 h
      · refine j_iload_n X jd_Re_operand_37 rfl rfl ?_
        exact j_iret X rfl jd_Re_operand_38 h
def f_Re_rec (F : Nat) : Nat → Nat → Int32 → Int32 → j_M → Option (Int32 × j_M)
  | 0, _, _, _, _ => none
  | k + 1, w, x1, x2, I => if w = 0 then f_Re_expression F (f_Re_rec F k) x1 x2 I else f_Re_operand F (f_Re_rec F k) x1 I
theorem k_Re_rec {l : Launch} {g : j_G} {b n : Nat} {P : j_R} {F : Nat} (hF : j_Fx 0 260 P) (hn : 260 ≤ n) : ∀ (k w : Nat) (x1 x2 : Int32) (I : j_M) (v : Int32) (I1 : j_M), f_Re_rec F k w x1 x2 I = some (v, I1) → (w = 0 → j_Met l g b n P (5 + k) jy_Re_expression jb_Re_expression 7 (some .int) [.ref (b + 208), .int x1, .int x2] I I1 (some (.int v))) ∧ (w = 1 → j_Met l g b n P (5 + k) jy_Re_operand jb_Re_operand 4 (some .int) [.ref (b + 208), .int x1] I I1 (some (.int v)))
  | 0, _, _, _, _, _, _, h => by cases h
  | k + 1, w, x1, x2, I, v, I1, h => by
    rw [f_Re_rec] at h
    have ih := k_Re_rec (l := l) (g := g) (b := b) (F := F) hF hn k
    refine ⟨fun hw => ?_, fun hw => ?_⟩
    · rw [if_pos hw] at h
      exact k_Re_expression (r := (v, I1)) hF hn (Nat.le_add_right 5 k) ih h
    · rw [if_neg (by omega)] at h
      exact k_Re_operand (r := (v, I1)) hF hn (Nat.le_add_right 5 k) ih h
def f_Re_expr (F : Nat) (x1 x2 : Int32) (I : j_M) : Option (Int32 × j_M) := f_Re_rec F 60 0 x1 x2 I
theorem k_Re_expr {l : Launch} {g : j_G} {b n : Nat} {P : j_R} {F : Nat} (hF : j_Fx 0 260 P) (hn : 260 ≤ n) {x1 x2 : Int32} {I : j_M} {r : Int32 × j_M} (h : f_Re_expr F x1 x2 I = some r) : j_Met l g b n P 65 jy_Re_expression jb_Re_expression 7 (some .int) [.ref (b + 208), .int x1, .int x2] I r.2 (some (.int r.1)) := (k_Re_rec hF hn 60 0 x1 x2 I r.1 r.2 h).1 rfl
-- PleasureGarden$Reader.valueOf([BII)I
theorem jd_Re_valueOf_0 : decode jb_Re_valueOf 0 = .ok (.aload_n 0, 1) := by decide +kernel
theorem jd_Re_valueOf_1 : decode jb_Re_valueOf 1 = .ok (.aload_n 1, 1) := by decide +kernel
theorem jd_Re_valueOf_2 : decode jb_Re_valueOf 2 = .ok (.putfield 17, 3) := by decide +kernel
theorem jd_Re_valueOf_5 : decode jb_Re_valueOf 5 = .ok (.aload_n 0, 1) := by decide +kernel
theorem jd_Re_valueOf_6 : decode jb_Re_valueOf 6 = .ok (.iload_n 2, 1) := by decide +kernel
theorem jd_Re_valueOf_7 : decode jb_Re_valueOf 7 = .ok (.putfield 21, 3) := by decide +kernel
theorem jd_Re_valueOf_10 : decode jb_Re_valueOf 10 = .ok (.aload_n 0, 1) := by decide +kernel
theorem jd_Re_valueOf_11 : decode jb_Re_valueOf 11 = .ok (.iload_n 2, 1) := by decide +kernel
theorem jd_Re_valueOf_12 : decode jb_Re_valueOf 12 = .ok (.iload_n 3, 1) := by decide +kernel
theorem jd_Re_valueOf_13 : decode jb_Re_valueOf 13 = .ok (.iadd, 1) := by decide +kernel
theorem jd_Re_valueOf_14 : decode jb_Re_valueOf 14 = .ok (.aload_n 1, 1) := by decide +kernel
theorem jd_Re_valueOf_15 : decode jb_Re_valueOf 15 = .ok (.arraylength, 1) := by decide +kernel
theorem jd_Re_valueOf_16 : decode jb_Re_valueOf 16 = .ok (.invokestatic 30, 3) := by decide +kernel
theorem jd_Re_valueOf_19 : decode jb_Re_valueOf 19 = .ok (.putfield 24, 3) := by decide +kernel
theorem jd_Re_valueOf_22 : decode jb_Re_valueOf 22 = .ok (.aload_n 0, 1) := by decide +kernel
theorem jd_Re_valueOf_23 : decode jb_Re_valueOf 23 = .ok (.iload_n 2, 1) := by decide +kernel
theorem jd_Re_valueOf_24 : decode jb_Re_valueOf 24 = .ok (.putfield 27, 3) := by decide +kernel
theorem jd_Re_valueOf_27 : decode jb_Re_valueOf 27 = .ok (.aload_n 0, 1) := by decide +kernel
theorem jd_Re_valueOf_28 : decode jb_Re_valueOf 28 = .ok (.iconst (-1), 1) := by decide +kernel
theorem jd_Re_valueOf_29 : decode jb_Re_valueOf 29 = .ok (.putfield 13, 3) := by decide +kernel
theorem jd_Re_valueOf_32 : decode jb_Re_valueOf 32 = .ok (.iconst 0, 1) := by decide +kernel
theorem jd_Re_valueOf_33 : decode jb_Re_valueOf 33 = .ok (.istore 4, 2) := by decide +kernel
theorem jd_Re_valueOf_35 : decode jb_Re_valueOf 35 = .ok (.iconst 0, 1) := by decide +kernel
theorem jd_Re_valueOf_36 : decode jb_Re_valueOf 36 = .ok (.istore 5, 2) := by decide +kernel
theorem jd_Re_valueOf_38 : decode jb_Re_valueOf 38 = .ok (.iconst 1, 1) := by decide +kernel
theorem jd_Re_valueOf_39 : decode jb_Re_valueOf 39 = .ok (.istore 6, 2) := by decide +kernel
theorem jd_Re_valueOf_41 : decode jb_Re_valueOf 41 = .ok (.iconst 0, 1) := by decide +kernel
theorem jd_Re_valueOf_42 : decode jb_Re_valueOf 42 = .ok (.istore 7, 2) := by decide +kernel
theorem jd_Re_valueOf_44 : decode jb_Re_valueOf 44 = .ok (.iload 6, 2) := by decide +kernel
theorem jd_Re_valueOf_46 : decode jb_Re_valueOf 46 = .ok (.ifCond .eq 81, 3) := by decide +kernel
theorem jd_Re_valueOf_49 : decode jb_Re_valueOf 49 = .ok (.iload 7, 2) := by decide +kernel
theorem jd_Re_valueOf_51 : decode jb_Re_valueOf 51 = .ok (.bipush 120, 2) := by decide +kernel
theorem jd_Re_valueOf_53 : decode jb_Re_valueOf 53 = .ok (.if_icmp .gt 74, 3) := by decide +kernel
theorem jd_Re_valueOf_56 : decode jb_Re_valueOf 56 = .ok (.aload_n 0, 1) := by decide +kernel
theorem jd_Re_valueOf_57 : decode jb_Re_valueOf 57 = .ok (.iconst 0, 1) := by decide +kernel
theorem jd_Re_valueOf_58 : decode jb_Re_valueOf 58 = .ok (.iconst 0, 1) := by decide +kernel
theorem jd_Re_valueOf_59 : decode jb_Re_valueOf 59 = .ok (.invokevirtual 38, 3) := by decide +kernel
theorem jd_Re_valueOf_62 : decode jb_Re_valueOf 62 = .ok (.istore 8, 2) := by decide +kernel
theorem jd_Re_valueOf_64 : decode jb_Re_valueOf 64 = .ok (.iconst 1, 1) := by decide +kernel
theorem jd_Re_valueOf_65 : decode jb_Re_valueOf 65 = .ok (.istore 9, 2) := by decide +kernel
theorem jd_Re_valueOf_67 : decode jb_Re_valueOf 67 = .ok (.aload_n 0, 1) := by decide +kernel
theorem jd_Re_valueOf_68 : decode jb_Re_valueOf 68 = .ok (.bipush 58, 2) := by decide +kernel
theorem jd_Re_valueOf_70 : decode jb_Re_valueOf 70 = .ok (.invokevirtual 41, 3) := by decide +kernel
theorem jd_Re_valueOf_73 : decode jb_Re_valueOf 73 = .ok (.ifCond .eq 23, 3) := by decide +kernel
theorem jd_Re_valueOf_76 : decode jb_Re_valueOf 76 = .ok (.iload 8, 2) := by decide +kernel
theorem jd_Re_valueOf_78 : decode jb_Re_valueOf 78 = .ok (.ifCond .eq 7, 3) := by decide +kernel
theorem jd_Re_valueOf_81 : decode jb_Re_valueOf 81 = .ok (.iconst 1, 1) := by decide +kernel
theorem jd_Re_valueOf_82 : decode jb_Re_valueOf 82 = .ok (.goto 4, 3) := by decide +kernel
theorem jd_Re_valueOf_85 : decode jb_Re_valueOf 85 = .ok (.iconst 0, 1) := by decide +kernel
theorem jd_Re_valueOf_86 : decode jb_Re_valueOf 86 = .ok (.istore 9, 2) := by decide +kernel
theorem jd_Re_valueOf_88 : decode jb_Re_valueOf 88 = .ok (.aload_n 0, 1) := by decide +kernel
theorem jd_Re_valueOf_89 : decode jb_Re_valueOf 89 = .ok (.iconst 0, 1) := by decide +kernel
theorem jd_Re_valueOf_90 : decode jb_Re_valueOf 90 = .ok (.iconst 0, 1) := by decide +kernel
theorem jd_Re_valueOf_91 : decode jb_Re_valueOf 91 = .ok (.invokevirtual 38, 3) := by decide +kernel
theorem jd_Re_valueOf_94 : decode jb_Re_valueOf 94 = .ok (.istore 8, 2) := by decide +kernel
theorem jd_Re_valueOf_96 : decode jb_Re_valueOf 96 = .ok (.iload 9, 2) := by decide +kernel
theorem jd_Re_valueOf_98 : decode jb_Re_valueOf 98 = .ok (.ifCond .eq 15, 3) := by decide +kernel
theorem jd_Re_valueOf_101 : decode jb_Re_valueOf 101 = .ok (.iload 5, 2) := by decide +kernel
theorem jd_Re_valueOf_103 : decode jb_Re_valueOf 103 = .ok (.ifCond .ne 10, 3) := by decide +kernel
theorem jd_Re_valueOf_106 : decode jb_Re_valueOf 106 = .ok (.iconst 1, 1) := by decide +kernel
theorem jd_Re_valueOf_107 : decode jb_Re_valueOf 107 = .ok (.istore 5, 2) := by decide +kernel
theorem jd_Re_valueOf_109 : decode jb_Re_valueOf 109 = .ok (.iload 8, 2) := by decide +kernel
theorem jd_Re_valueOf_111 : decode jb_Re_valueOf 111 = .ok (.istore 4, 2) := by decide +kernel
theorem jd_Re_valueOf_113 : decode jb_Re_valueOf 113 = .ok (.aload_n 0, 1) := by decide +kernel
theorem jd_Re_valueOf_114 : decode jb_Re_valueOf 114 = .ok (.bipush 59, 2) := by decide +kernel
theorem jd_Re_valueOf_116 : decode jb_Re_valueOf 116 = .ok (.invokevirtual 41, 3) := by decide +kernel
theorem jd_Re_valueOf_119 : decode jb_Re_valueOf 119 = .ok (.istore 6, 2) := by decide +kernel
theorem jd_Re_valueOf_121 : decode jb_Re_valueOf 121 = .ok (.iinc 7 1, 3) := by decide +kernel
theorem jd_Re_valueOf_124 : decode jb_Re_valueOf 124 = .ok (.goto (-80), 3) := by decide +kernel
theorem jd_Re_valueOf_127 : decode jb_Re_valueOf 127 = .ok (.aload_n 0, 1) := by decide +kernel
theorem jd_Re_valueOf_128 : decode jb_Re_valueOf 128 = .ok (.getfield 27, 3) := by decide +kernel
theorem jd_Re_valueOf_131 : decode jb_Re_valueOf 131 = .ok (.aload_n 0, 1) := by decide +kernel
theorem jd_Re_valueOf_132 : decode jb_Re_valueOf 132 = .ok (.getfield 24, 3) := by decide +kernel
theorem jd_Re_valueOf_135 : decode jb_Re_valueOf 135 = .ok (.if_icmp .ge 7, 3) := by decide +kernel
theorem jd_Re_valueOf_138 : decode jb_Re_valueOf 138 = .ok (.aload_n 0, 1) := by decide +kernel
theorem jd_Re_valueOf_139 : decode jb_Re_valueOf 139 = .ok (.invokevirtual 45, 3) := by decide +kernel
theorem jd_Re_valueOf_142 : decode jb_Re_valueOf 142 = .ok (.iload 4, 2) := by decide +kernel
theorem jd_Re_valueOf_144 : decode jb_Re_valueOf 144 = .ok (.ireturn, 1) := by decide +kernel
def f_Re_valueOf_127 (F : Nat)  (x4 : Int32) (I : j_M) : Option (Int32 × j_M) := (if (I 208 4) ≤ (I 208 5) then some (x4, I) else j_bd (f_Re_fail F I) (fun v1 I2 => some (x4, I2)))
def f_Re_valueOf_113 (F : Nat) (kb44 : Int32 → Int32 → Int32 → Int32 → j_M → Option (Int32 × j_M)) (x4 : Int32) (x5 : Int32) (x7 : Int32) (I : j_M) : Option (Int32 × j_M) := j_bd (f_Re_take F 59 I) (fun v3 I4 => j_let (x7 + 1) (fun v5 => kb44 x4 x5 v3 v5 I4))
def f_Re_valueOf_96 (F : Nat) (kb44 : Int32 → Int32 → Int32 → Int32 → j_M → Option (Int32 × j_M)) (x4 : Int32) (x5 : Int32) (x7 : Int32) (x8 : Int32) (x9 : Int32) (I : j_M) : Option (Int32 × j_M) := (if x9 = 0 then f_Re_valueOf_113 F kb44 x4 x5 x7 I else (if x5 = 0 then f_Re_valueOf_113 F kb44 x8 1 x7 I else f_Re_valueOf_113 F kb44 x4 x5 x7 I))
def f_Re_valueOf_86 (F : Nat) (kb44 : Int32 → Int32 → Int32 → Int32 → j_M → Option (Int32 × j_M)) (x4 : Int32) (x5 : Int32) (x7 : Int32) (s0 : Int32) (I : j_M) : Option (Int32 × j_M) := j_bd (f_Re_expr F 0 0 I) (fun v6 I7 => f_Re_valueOf_96 F kb44 x4 x5 x7 v6 s0 I7)
def f_Re_valueOf_44b (F : Nat) (kb44 : Int32 → Int32 → Int32 → Int32 → j_M → Option (Int32 × j_M)) (x4 : Int32) (x5 : Int32) (x6 : Int32) (x7 : Int32) (I : j_M) : Option (Int32 × j_M) := (if x6 = 0 then f_Re_valueOf_127 F x4 I else (if 120 < x7 then f_Re_valueOf_127 F x4 I else j_bd (f_Re_expr F 0 0 I) (fun v8 I9 => j_bd (f_Re_take F 58 I9) (fun v10 I11 => (if v10 = 0 then f_Re_valueOf_96 F kb44 x4 x5 x7 v8 1 I11 else (if v8 = 0 then f_Re_valueOf_86 F kb44 x4 x5 x7 0 I11 else f_Re_valueOf_86 F kb44 x4 x5 x7 1 I11))))))
def f_Re_valueOf_44 (F : Nat)  (x4 : Int32) (x5 : Int32) (x6 : Int32) (x7 : Int32) (I : j_M) : Option (Int32 × j_M) := j_it (fun (again : Int32 × Int32 × Int32 × Int32 × j_M → Option (Int32 × j_M)) (q : Int32 × Int32 × Int32 × Int32 × j_M) => f_Re_valueOf_44b F  (fun x4 x5 x6 x7 I => again (x4, x5, x6, x7, I))  q.1 q.2.1 q.2.2.1 q.2.2.2.1 q.2.2.2.2) F (x4, x5, x6, x7, I)
def f_Re_valueOf (F : Nat) (x2 : Int32) (x3 : Int32) (I : j_M) : Option (Int32 × j_M) := j_let (j_wr I 208 2 (nI 203)) (fun I12 => j_let (j_wr I12 208 3 x2) (fun I13 => j_let (if 3720 < (x2 + x3) then 3720 else (x2 + x3)) (fun v14 => j_let (j_wr I13 208 4 v14) (fun I15 => j_let (j_wr I15 208 5 x2) (fun I16 => j_let (j_wr I16 208 1 (-1)) (fun I17 => f_Re_valueOf_44 F 0 0 1 0 I17))))))
set_option maxRecDepth 100000 in
set_option maxHeartbeats 4000000 in
theorem k_Re_valueOf_127 {p : Program} {l : Launch} {e : Env} {R : Room} {s : State} {m : MethodId} {args : Array Value} {below : List Frame} {meth : Method} {c : Code} {g : j_G} {b n : Nat} {P : j_R} {F : Nat} (hF : j_Fx 0 260 P) (hn : 260 ≤ n) (X : j_X p R s m args meth c g b 66 jb_Re_valueOf 10 "PleasureGarden$Reader" (some .int))  {x4 : Int32} {I : j_M} {r : Int32 × j_M}  (h : f_Re_valueOf_127 F x4 I = some r) : j_W p l e R s m args below meth c 10 g b n 0 0 (j_Qi g b n P below args s r) I P 127 [some (.ref (b + 208)), none, none, none, some (.int x4), none, none, none, none, none] [] := by
  unfold f_Re_valueOf_127 at h
  refine j_aload_n X jd_Re_valueOf_127 rfl rfl ?_
  refine j_get X jf_Re_27 jk_10_5 js_208 (j_lt rfl hn) jd_Re_valueOf_128 ?_
  refine j_aload_n X jd_Re_valueOf_131 rfl rfl ?_
  refine j_get X jf_Re_24 jk_10_4 js_208 (j_lt rfl hn) jd_Re_valueOf_132 ?_
  refine j_icmp_ge (tgt := 142) X jd_Re_valueOf_135 rfl h (fun h => ?_) (fun h => ?_)
  · refine j_iload X jd_Re_valueOf_142 rfl ?_
    exact j_iret X rfl jd_Re_valueOf_144 h
  · refine j_aload_n X jd_Re_valueOf_138 rfl rfl ?_
    refine j_callVv (As := []) (st := []) (c0 := 208) X h jc_Re js_208 (j_lt rfl hn) ⟨jqc_Re_fail, jqi_Re_fail, jqv_Re_fail, jqn_Re⟩ jlm_Re_45 jh_Re_fail rfl (by decide) (by decide) (Nat.le_of_ble_eq_true rfl) ⟨Nat.zero_le _, Nat.zero_le _⟩ (fun v0 I0 h => k_Re_fail (r := (v0, I0)) hF hn h) jd_Re_valueOf_139 rfl (fun v1 I2 h => ?_)
    refine j_iload X jd_Re_valueOf_142 rfl ?_
    exact j_iret X rfl jd_Re_valueOf_144 h
set_option maxRecDepth 100000 in
set_option maxHeartbeats 4000000 in
theorem k_Re_valueOf_113 {p : Program} {l : Launch} {e : Env} {R : Room} {s : State} {m : MethodId} {args : Array Value} {below : List Frame} {meth : Method} {c : Code} {g : j_G} {b n : Nat} {P : j_R} {F : Nat} (hF : j_Fx 0 260 P) (hn : 260 ≤ n) (X : j_X p R s m args meth c g b 66 jb_Re_valueOf 10 "PleasureGarden$Reader" (some .int)) {kb44 : Int32 → Int32 → Int32 → Int32 → j_M → Option (Int32 × j_M)} (hkb44 : ∀ (x4 : Int32) (x5 : Int32) (x6 : Int32) (x7 : Int32) (I : j_M) (r : Int32 × j_M), kb44 x4 x5 x6 x7 I = some r → j_W p l e R s m args below meth c 10 g b n 0 0 (j_Qi g b n P below args s r) I P 44 [some (.ref (b + 208)), none, none, none, some (.int x4), some (.int x5), some (.int x6), some (.int x7), none, none] []) {x4 : Int32} {x5 : Int32} {x7 : Int32} {I : j_M} {r : Int32 × j_M}  (h : f_Re_valueOf_113 F kb44 x4 x5 x7 I = some r) : j_W p l e R s m args below meth c 10 g b n 0 0 (j_Qi g b n P below args s r) I P 113 [some (.ref (b + 208)), none, none, none, some (.int x4), some (.int x5), none, some (.int x7), none, none] [] := by
  unfold f_Re_valueOf_113 at h
  refine j_aload_n X jd_Re_valueOf_113 rfl rfl ?_
  refine j_bipush (v := 59) X jd_Re_valueOf_114 (by decide) ?_
  refine j_callVi (As := [.int 59]) (st := []) (c0 := 208) X h jc_Re js_208 (j_lt rfl hn) ⟨jqc_Re_take, jqi_Re_take, jqv_Re_take, jqn_Re⟩ jlm_Re_41 jh_Re_take rfl (by decide) (by decide) (Nat.le_of_ble_eq_true rfl) ⟨Nat.zero_le _, Nat.zero_le _⟩ (fun v0 I0 h => k_Re_take (r := (v0, I0)) hF hn h) jd_Re_valueOf_116 rfl (fun v3 I4 h => ?_)
  refine j_istore (lv' := [some (.ref (b + 208)), none, none, none, some (.int x4), some (.int x5), some (.int v3), some (.int x7), none, none]) X jd_Re_valueOf_119 (by decide) rfl ?_
  obtain ⟨v5, ev5, h⟩ := j_ex h
  refine j_iinc (v := v5) (lv' := [some (.ref (b + 208)), none, none, none, some (.int x4), some (.int x5), some (.int v3), some (.int v5), none, none]) X jd_Re_valueOf_121 rfl (by rw [ev5]; rfl) (by decide) rfl ?_
  refine j_goto (tgt := 44) X jd_Re_valueOf_124 rfl ?_
  exact hkb44 _ _ _ _ _ _ h
set_option maxRecDepth 100000 in
set_option maxHeartbeats 4000000 in
theorem k_Re_valueOf_96 {p : Program} {l : Launch} {e : Env} {R : Room} {s : State} {m : MethodId} {args : Array Value} {below : List Frame} {meth : Method} {c : Code} {g : j_G} {b n : Nat} {P : j_R} {F : Nat} (hF : j_Fx 0 260 P) (hn : 260 ≤ n) (X : j_X p R s m args meth c g b 66 jb_Re_valueOf 10 "PleasureGarden$Reader" (some .int)) {kb44 : Int32 → Int32 → Int32 → Int32 → j_M → Option (Int32 × j_M)} (hkb44 : ∀ (x4 : Int32) (x5 : Int32) (x6 : Int32) (x7 : Int32) (I : j_M) (r : Int32 × j_M), kb44 x4 x5 x6 x7 I = some r → j_W p l e R s m args below meth c 10 g b n 0 0 (j_Qi g b n P below args s r) I P 44 [some (.ref (b + 208)), none, none, none, some (.int x4), some (.int x5), some (.int x6), some (.int x7), none, none] []) {x4 : Int32} {x5 : Int32} {x7 : Int32} {x8 : Int32} {x9 : Int32} {I : j_M} {r : Int32 × j_M}  (h : f_Re_valueOf_96 F kb44 x4 x5 x7 x8 x9 I = some r) : j_W p l e R s m args below meth c 10 g b n 0 0 (j_Qi g b n P below args s r) I P 96 [some (.ref (b + 208)), none, none, none, some (.int x4), some (.int x5), none, some (.int x7), some (.int x8), some (.int x9)] [] := by
  unfold f_Re_valueOf_96 at h
  refine j_iload X jd_Re_valueOf_96 rfl ?_
  refine j_if_eq (tgt := 113) X jd_Re_valueOf_98 rfl h (fun h => ?_) (fun h => ?_)
  · refine j_sub [true, false, false, false, true, true, false, true, false, false] (lv' := [some (.ref (b + 208)), none, none, none, some (.int x4), some (.int x5), none, some (.int x7), none, none]) rfl ?_
    exact k_Re_valueOf_113 hF hn X hkb44 h
  · refine j_iload X jd_Re_valueOf_101 rfl ?_
    refine j_if_ne (tgt := 113) X jd_Re_valueOf_103 rfl h (fun h => ?_) (fun h => ?_)
    · refine j_iconst (v := 1) X jd_Re_valueOf_106 (by decide) ?_
      refine j_istore (lv' := [some (.ref (b + 208)), none, none, none, some (.int x4), some (.int 1), none, some (.int x7), some (.int x8), some (.int x9)]) X jd_Re_valueOf_107 (by decide) rfl ?_
      refine j_iload X jd_Re_valueOf_109 rfl ?_
      refine j_istore (lv' := [some (.ref (b + 208)), none, none, none, some (.int x8), some (.int 1), none, some (.int x7), some (.int x8), some (.int x9)]) X jd_Re_valueOf_111 (by decide) rfl ?_
      refine j_sub [true, false, false, false, true, true, false, true, false, false] (lv' := [some (.ref (b + 208)), none, none, none, some (.int x8), some (.int 1), none, some (.int x7), none, none]) rfl ?_
      exact k_Re_valueOf_113 hF hn X hkb44 h
    · refine j_sub [true, false, false, false, true, true, false, true, false, false] (lv' := [some (.ref (b + 208)), none, none, none, some (.int x4), some (.int x5), none, some (.int x7), none, none]) rfl ?_
      exact k_Re_valueOf_113 hF hn X hkb44 h
set_option maxRecDepth 100000 in
set_option maxHeartbeats 4000000 in
theorem k_Re_valueOf_86 {p : Program} {l : Launch} {e : Env} {R : Room} {s : State} {m : MethodId} {args : Array Value} {below : List Frame} {meth : Method} {c : Code} {g : j_G} {b n : Nat} {P : j_R} {F : Nat} (hF : j_Fx 0 260 P) (hn : 260 ≤ n) (X : j_X p R s m args meth c g b 66 jb_Re_valueOf 10 "PleasureGarden$Reader" (some .int)) {kb44 : Int32 → Int32 → Int32 → Int32 → j_M → Option (Int32 × j_M)} (hkb44 : ∀ (x4 : Int32) (x5 : Int32) (x6 : Int32) (x7 : Int32) (I : j_M) (r : Int32 × j_M), kb44 x4 x5 x6 x7 I = some r → j_W p l e R s m args below meth c 10 g b n 0 0 (j_Qi g b n P below args s r) I P 44 [some (.ref (b + 208)), none, none, none, some (.int x4), some (.int x5), some (.int x6), some (.int x7), none, none] []) {x4 : Int32} {x5 : Int32} {x7 : Int32} {s0 : Int32} {I : j_M} {r : Int32 × j_M}  (h : f_Re_valueOf_86 F kb44 x4 x5 x7 s0 I = some r) : j_W p l e R s m args below meth c 10 g b n 0 0 (j_Qi g b n P below args s r) I P 86 [some (.ref (b + 208)), none, none, none, some (.int x4), some (.int x5), none, some (.int x7), none, none] [.int s0] := by
  unfold f_Re_valueOf_86 at h
  refine j_istore (lv' := [some (.ref (b + 208)), none, none, none, some (.int x4), some (.int x5), none, some (.int x7), none, some (.int s0)]) X jd_Re_valueOf_86 (by decide) rfl ?_
  refine j_aload_n X jd_Re_valueOf_88 rfl rfl ?_
  refine j_iconst (v := 0) X jd_Re_valueOf_89 (by decide) ?_
  refine j_iconst (v := 0) X jd_Re_valueOf_90 (by decide) ?_
  refine j_callVi (As := [.int 0, .int 0]) (st := []) (c0 := 208) X h jc_Re js_208 (j_lt rfl hn) ⟨jqc_Re_expression, jqi_Re_expression, jqv_Re_expression, jqn_Re⟩ jlm_Re_38 jh_Re_expression rfl (by decide) (by decide) (Nat.le_of_ble_eq_true rfl) ⟨Nat.zero_le _, Nat.zero_le _⟩ (fun v0 I0 h => k_Re_expr (r := (v0, I0)) hF hn h) jd_Re_valueOf_91 rfl (fun v6 I7 h => ?_)
  refine j_istore (lv' := [some (.ref (b + 208)), none, none, none, some (.int x4), some (.int x5), none, some (.int x7), some (.int v6), some (.int s0)]) X jd_Re_valueOf_94 (by decide) rfl ?_
  exact k_Re_valueOf_96 hF hn X hkb44 h
set_option maxRecDepth 100000 in
set_option maxHeartbeats 4000000 in
theorem k_Re_valueOf_44b {p : Program} {l : Launch} {e : Env} {R : Room} {s : State} {m : MethodId} {args : Array Value} {below : List Frame} {meth : Method} {c : Code} {g : j_G} {b n : Nat} {P : j_R} {F : Nat} (hF : j_Fx 0 260 P) (hn : 260 ≤ n) (X : j_X p R s m args meth c g b 66 jb_Re_valueOf 10 "PleasureGarden$Reader" (some .int)) {kb44 : Int32 → Int32 → Int32 → Int32 → j_M → Option (Int32 × j_M)} (hkb44 : ∀ (x4 : Int32) (x5 : Int32) (x6 : Int32) (x7 : Int32) (I : j_M) (r : Int32 × j_M), kb44 x4 x5 x6 x7 I = some r → j_W p l e R s m args below meth c 10 g b n 0 0 (j_Qi g b n P below args s r) I P 44 [some (.ref (b + 208)), none, none, none, some (.int x4), some (.int x5), some (.int x6), some (.int x7), none, none] []) {x4 : Int32} {x5 : Int32} {x6 : Int32} {x7 : Int32} {I : j_M} {r : Int32 × j_M}  (h : f_Re_valueOf_44b F kb44 x4 x5 x6 x7 I = some r) : j_W p l e R s m args below meth c 10 g b n 0 0 (j_Qi g b n P below args s r) I P 44 [some (.ref (b + 208)), none, none, none, some (.int x4), some (.int x5), some (.int x6), some (.int x7), none, none] [] := by
  unfold f_Re_valueOf_44b at h
  refine j_iload X jd_Re_valueOf_44 rfl ?_
  refine j_if_eq (tgt := 127) X jd_Re_valueOf_46 rfl h (fun h => ?_) (fun h => ?_)
  · refine j_sub [true, false, false, false, true, false, false, false, false, false] (lv' := [some (.ref (b + 208)), none, none, none, some (.int x4), none, none, none, none, none]) rfl ?_
    exact k_Re_valueOf_127 hF hn X h
  · refine j_iload X jd_Re_valueOf_49 rfl ?_
    refine j_bipush (v := 120) X jd_Re_valueOf_51 (by decide) ?_
    refine j_icmp_gt (tgt := 127) X jd_Re_valueOf_53 rfl h (fun h => ?_) (fun h => ?_)
    · refine j_sub [true, false, false, false, true, false, false, false, false, false] (lv' := [some (.ref (b + 208)), none, none, none, some (.int x4), none, none, none, none, none]) rfl ?_
      exact k_Re_valueOf_127 hF hn X h
    · refine j_aload_n X jd_Re_valueOf_56 rfl rfl ?_
      refine j_iconst (v := 0) X jd_Re_valueOf_57 (by decide) ?_
      refine j_iconst (v := 0) X jd_Re_valueOf_58 (by decide) ?_
      refine j_callVi (As := [.int 0, .int 0]) (st := []) (c0 := 208) X h jc_Re js_208 (j_lt rfl hn) ⟨jqc_Re_expression, jqi_Re_expression, jqv_Re_expression, jqn_Re⟩ jlm_Re_38 jh_Re_expression rfl (by decide) (by decide) (Nat.le_of_ble_eq_true rfl) ⟨Nat.zero_le _, Nat.zero_le _⟩ (fun v0 I0 h => k_Re_expr (r := (v0, I0)) hF hn h) jd_Re_valueOf_59 rfl (fun v8 I9 h => ?_)
      refine j_istore (lv' := [some (.ref (b + 208)), none, none, none, some (.int x4), some (.int x5), some (.int x6), some (.int x7), some (.int v8), none]) X jd_Re_valueOf_62 (by decide) rfl ?_
      refine j_iconst (v := 1) X jd_Re_valueOf_64 (by decide) ?_
      refine j_istore (lv' := [some (.ref (b + 208)), none, none, none, some (.int x4), some (.int x5), some (.int x6), some (.int x7), some (.int v8), some (.int 1)]) X jd_Re_valueOf_65 (by decide) rfl ?_
      refine j_aload_n X jd_Re_valueOf_67 rfl rfl ?_
      refine j_bipush (v := 58) X jd_Re_valueOf_68 (by decide) ?_
      refine j_callVi (As := [.int 58]) (st := []) (c0 := 208) X h jc_Re js_208 (j_lt rfl hn) ⟨jqc_Re_take, jqi_Re_take, jqv_Re_take, jqn_Re⟩ jlm_Re_41 jh_Re_take rfl (by decide) (by decide) (Nat.le_of_ble_eq_true rfl) ⟨Nat.zero_le _, Nat.zero_le _⟩ (fun v0 I0 h => k_Re_take (r := (v0, I0)) hF hn h) jd_Re_valueOf_70 rfl (fun v10 I11 h => ?_)
      refine j_if_eq (tgt := 96) X jd_Re_valueOf_73 rfl h (fun h => ?_) (fun h => ?_)
      · refine j_sub [true, false, false, false, true, true, false, true, true, true] (lv' := [some (.ref (b + 208)), none, none, none, some (.int x4), some (.int x5), none, some (.int x7), some (.int v8), some (.int 1)]) rfl ?_
        exact k_Re_valueOf_96 hF hn X hkb44 h
      · refine j_iload X jd_Re_valueOf_76 rfl ?_
        refine j_if_eq (tgt := 85) X jd_Re_valueOf_78 rfl h (fun h => ?_) (fun h => ?_)
        · refine j_iconst (v := 0) X jd_Re_valueOf_85 (by decide) ?_
          refine j_sub [true, false, false, false, true, true, false, true, false, false] (lv' := [some (.ref (b + 208)), none, none, none, some (.int x4), some (.int x5), none, some (.int x7), none, none]) rfl ?_
          exact k_Re_valueOf_86 hF hn X hkb44 h
        · refine j_iconst (v := 1) X jd_Re_valueOf_81 (by decide) ?_
          refine j_goto (tgt := 86) X jd_Re_valueOf_82 rfl ?_
          refine j_sub [true, false, false, false, true, true, false, true, false, false] (lv' := [some (.ref (b + 208)), none, none, none, some (.int x4), some (.int x5), none, some (.int x7), none, none]) rfl ?_
          exact k_Re_valueOf_86 hF hn X hkb44 h
set_option maxRecDepth 100000 in
set_option maxHeartbeats 4000000 in
theorem k_Re_valueOf_44 {p : Program} {l : Launch} {e : Env} {R : Room} {s : State} {m : MethodId} {args : Array Value} {below : List Frame} {meth : Method} {c : Code} {g : j_G} {b n : Nat} {P : j_R} {F : Nat} (hF : j_Fx 0 260 P) (hn : 260 ≤ n) (X : j_X p R s m args meth c g b 66 jb_Re_valueOf 10 "PleasureGarden$Reader" (some .int))  {x4 : Int32} {x5 : Int32} {x6 : Int32} {x7 : Int32} {I : j_M} {r : Int32 × j_M} (h : f_Re_valueOf_44 F x4 x5 x6 x7 I = some r) : j_W p l e R s m args below meth c 10 g b n 0 0 (j_Qi g b n P below args s r) I P 44 [some (.ref (b + 208)), none, none, none, some (.int x4), some (.int x5), some (.int x6), some (.int x7), none, none] [] := by
  refine j_loop (G := fun (q : Int32 × Int32 × Int32 × Int32 × j_M) (r : Int32 × j_M) => j_W p l e R s m args below meth c 10 g b n 0 0 (j_Qi g b n P below args s r) q.2.2.2.2 P 44 [some (.ref (b + 208)), none, none, none, some (.int (q.1)), some (.int (q.2.1)), some (.int (q.2.2.1)), some (.int (q.2.2.2.1)), none, none] []) ?_ F (x4, x5, x6, x7, I) r h
  intro again hrec0 q r h
  exact k_Re_valueOf_44b hF hn X (fun x4 x5 x6 x7 I r h => hrec0 (x4, x5, x6, x7, I) r h)  h
set_option maxRecDepth 100000 in
set_option maxHeartbeats 4000000 in
theorem k_Re_valueOf {l : Launch} {g : j_G} {b n : Nat} {P : j_R} {F : Nat} (hF : j_Fx 0 260 P) (hn : 260 ≤ n) {x2 : Int32} {x3 : Int32} {I : j_M} {r : Int32 × j_M}  (h : f_Re_valueOf F x2 x3 I = some r) : j_Met l g b n P 66 jy_Re_valueOf jb_Re_valueOf 10 (some .int) [.ref (b + 208), .ref (b + 203), .int x2, .int x3] I r.2 (some (.int r.1)) := by
  unfold f_Re_valueOf at h
  refine j_enter (plainFor_of_name (by decide)) (Nat.le_of_ble_eq_true rfl) [some (.ref (b + 208)), some (.ref (b + 203)), some (.int x2), some (.int x3), none, none, none, none, none, none] rfl ?_
  intro p e R s m args below meth c X0 hnm hRc hRs
  have X : j_X p R s m args meth c g b 66 jb_Re_valueOf 10 "PleasureGarden$Reader" (some .int) := X0
  clear X0
  refine j_aload_n X jd_Re_valueOf_0 rfl rfl ?_
  refine j_aload_n X jd_Re_valueOf_1 rfl rfl ?_
  refine j_putt X 203 (by decide) jt_Re jto_Re jn_Re jf_Re_17 jk_10_2 js_208 (j_lt rfl hn) (Or.inl rfl) rfl jd_Re_valueOf_2 ?_
  refine j_mem h (fun I12 h => ?_)
  refine j_aload_n X jd_Re_valueOf_5 rfl rfl ?_
  refine j_iload_n X jd_Re_valueOf_6 rfl rfl ?_
  refine j_puti X jt_Re jto_Re jn_Re jf_Re_21 jk_10_3 js_208 (j_lt rfl hn) (Or.inl rfl) rfl jd_Re_valueOf_7 ?_
  refine j_mem h (fun I13 h => ?_)
  refine j_aload_n X jd_Re_valueOf_10 rfl rfl ?_
  refine j_iload_n X jd_Re_valueOf_11 rfl rfl ?_
  refine j_iload_n X jd_Re_valueOf_12 rfl rfl ?_
  refine j_iadd X jd_Re_valueOf_13 ?_
  refine j_aload_n X jd_Re_valueOf_14 rfl rfl ?_
  refine j_alen (v := 3720) X rfl js_203 (j_lt rfl hn) jd_Re_valueOf_15 (by decide) ?_
  refine j_mmin (st := [.ref (b + 208)]) X jlm_Re_30 (by decide) (Nat.le_of_ble_eq_true rfl) ⟨Nat.zero_le _, Nat.zero_le _⟩ jd_Re_valueOf_16 ?_
  refine j_nm h (fun v14 h => ?_)
  refine j_puti X jt_Re jto_Re jn_Re jf_Re_24 jk_10_4 js_208 (j_lt rfl hn) (Or.inl rfl) rfl jd_Re_valueOf_19 ?_
  refine j_mem h (fun I15 h => ?_)
  refine j_aload_n X jd_Re_valueOf_22 rfl rfl ?_
  refine j_iload_n X jd_Re_valueOf_23 rfl rfl ?_
  refine j_puti X jt_Re jto_Re jn_Re jf_Re_27 jk_10_5 js_208 (j_lt rfl hn) (Or.inl rfl) rfl jd_Re_valueOf_24 ?_
  refine j_mem h (fun I16 h => ?_)
  refine j_aload_n X jd_Re_valueOf_27 rfl rfl ?_
  refine j_iconst (v := (-1)) X jd_Re_valueOf_28 (by decide) ?_
  refine j_puti X jt_Re jto_Re jn_Re jf_Re_13 jk_10_1 js_208 (j_lt rfl hn) (Or.inl rfl) rfl jd_Re_valueOf_29 ?_
  refine j_mem h (fun I17 h => ?_)
  refine j_iconst (v := 0) X jd_Re_valueOf_32 (by decide) ?_
  refine j_istore (lv' := [some (.ref (b + 208)), some (.ref (b + 203)), some (.int x2), some (.int x3), some (.int 0), none, none, none, none, none]) X jd_Re_valueOf_33 (by decide) rfl ?_
  refine j_iconst (v := 0) X jd_Re_valueOf_35 (by decide) ?_
  refine j_istore (lv' := [some (.ref (b + 208)), some (.ref (b + 203)), some (.int x2), some (.int x3), some (.int 0), some (.int 0), none, none, none, none]) X jd_Re_valueOf_36 (by decide) rfl ?_
  refine j_iconst (v := 1) X jd_Re_valueOf_38 (by decide) ?_
  refine j_istore (lv' := [some (.ref (b + 208)), some (.ref (b + 203)), some (.int x2), some (.int x3), some (.int 0), some (.int 0), some (.int 1), none, none, none]) X jd_Re_valueOf_39 (by decide) rfl ?_
  refine j_iconst (v := 0) X jd_Re_valueOf_41 (by decide) ?_
  refine j_istore (lv' := [some (.ref (b + 208)), some (.ref (b + 203)), some (.int x2), some (.int x3), some (.int 0), some (.int 0), some (.int 1), some (.int 0), none, none]) X jd_Re_valueOf_42 (by decide) rfl ?_
  refine j_sub [true, false, false, false, true, true, true, true, false, false] (lv' := [some (.ref (b + 208)), none, none, none, some (.int 0), some (.int 0), some (.int 1), some (.int 0), none, none]) rfl ?_
  exact k_Re_valueOf_44 hF hn X h
-- PleasureGarden$Prices.make(III)I
theorem jd_Pr_make_0 : decode jb_Pr_make 0 = .ok (.aload_n 0, 1) := by decide +kernel
theorem jd_Pr_make_1 : decode jb_Pr_make 1 = .ok (.getfield 36, 3) := by decide +kernel
theorem jd_Pr_make_4 : decode jb_Pr_make 4 = .ok (.aload_n 0, 1) := by decide +kernel
theorem jd_Pr_make_5 : decode jb_Pr_make 5 = .ok (.getfield 16, 3) := by decide +kernel
theorem jd_Pr_make_8 : decode jb_Pr_make 8 = .ok (.aload_n 0, 1) := by decide +kernel
theorem jd_Pr_make_9 : decode jb_Pr_make 9 = .ok (.getfield 7, 3) := by decide +kernel
theorem jd_Pr_make_12 : decode jb_Pr_make 12 = .ok (.bipush 120, 2) := by decide +kernel
theorem jd_Pr_make_14 : decode jb_Pr_make 14 = .ok (.imul, 1) := by decide +kernel
theorem jd_Pr_make_15 : decode jb_Pr_make 15 = .ok (.aload_n 0, 1) := by decide +kernel
theorem jd_Pr_make_16 : decode jb_Pr_make 16 = .ok (.getfield 13, 3) := by decide +kernel
theorem jd_Pr_make_19 : decode jb_Pr_make 19 = .ok (.invokevirtual 40, 3) := by decide +kernel
theorem jd_Pr_make_22 : decode jb_Pr_make 22 = .ok (.pop, 1) := by decide +kernel
theorem jd_Pr_make_23 : decode jb_Pr_make 23 = .ok (.aload_n 0, 1) := by decide +kernel
theorem jd_Pr_make_24 : decode jb_Pr_make 24 = .ok (.getfield 13, 3) := by decide +kernel
theorem jd_Pr_make_27 : decode jb_Pr_make 27 = .ok (.istore 4, 2) := by decide +kernel
theorem jd_Pr_make_29 : decode jb_Pr_make 29 = .ok (.aload_n 0, 1) := by decide +kernel
theorem jd_Pr_make_30 : decode jb_Pr_make 30 = .ok (.iconst 0, 1) := by decide +kernel
theorem jd_Pr_make_31 : decode jb_Pr_make 31 = .ok (.putfield 13, 3) := by decide +kernel
theorem jd_Pr_make_34 : decode jb_Pr_make 34 = .ok (.aload_n 0, 1) := by decide +kernel
theorem jd_Pr_make_35 : decode jb_Pr_make 35 = .ok (.getfield 36, 3) := by decide +kernel
theorem jd_Pr_make_38 : decode jb_Pr_make 38 = .ok (.getfield 44, 3) := by decide +kernel
theorem jd_Pr_make_41 : decode jb_Pr_make 41 = .ok (.iconst (-1), 1) := by decide +kernel
theorem jd_Pr_make_42 : decode jb_Pr_make 42 = .ok (.if_icmp .eq 14, 3) := by decide +kernel
theorem jd_Pr_make_45 : decode jb_Pr_make 45 = .ok (.bipush (-100), 2) := by decide +kernel
theorem jd_Pr_make_47 : decode jb_Pr_make 47 = .ok (.aload_n 0, 1) := by decide +kernel
theorem jd_Pr_make_48 : decode jb_Pr_make 48 = .ok (.getfield 36, 3) := by decide +kernel
theorem jd_Pr_make_51 : decode jb_Pr_make 51 = .ok (.getfield 44, 3) := by decide +kernel
theorem jd_Pr_make_54 : decode jb_Pr_make 54 = .ok (.isub, 1) := by decide +kernel
theorem jd_Pr_make_55 : decode jb_Pr_make 55 = .ok (.ireturn, 1) := by decide +kernel
theorem jd_Pr_make_56 : decode jb_Pr_make 56 = .ok (.aload_n 0, 1) := by decide +kernel
theorem jd_Pr_make_57 : decode jb_Pr_make 57 = .ok (.getfield 20, 3) := by decide +kernel
theorem jd_Pr_make_60 : decode jb_Pr_make 60 = .ok (.aload_n 0, 1) := by decide +kernel
theorem jd_Pr_make_61 : decode jb_Pr_make 61 = .ok (.getfield 7, 3) := by decide +kernel
theorem jd_Pr_make_64 : decode jb_Pr_make 64 = .ok (.iload 4, 2) := by decide +kernel
theorem jd_Pr_make_66 : decode jb_Pr_make 66 = .ok (.iastore, 1) := by decide +kernel
theorem jd_Pr_make_67 : decode jb_Pr_make 67 = .ok (.aload_n 0, 1) := by decide +kernel
theorem jd_Pr_make_68 : decode jb_Pr_make 68 = .ok (.getfield 24, 3) := by decide +kernel
theorem jd_Pr_make_71 : decode jb_Pr_make 71 = .ok (.aload_n 0, 1) := by decide +kernel
theorem jd_Pr_make_72 : decode jb_Pr_make 72 = .ok (.getfield 7, 3) := by decide +kernel
theorem jd_Pr_make_75 : decode jb_Pr_make 75 = .ok (.iload_n 1, 1) := by decide +kernel
theorem jd_Pr_make_76 : decode jb_Pr_make 76 = .ok (.iastore, 1) := by decide +kernel
theorem jd_Pr_make_77 : decode jb_Pr_make 77 = .ok (.aload_n 0, 1) := by decide +kernel
theorem jd_Pr_make_78 : decode jb_Pr_make 78 = .ok (.getfield 27, 3) := by decide +kernel
theorem jd_Pr_make_81 : decode jb_Pr_make 81 = .ok (.aload_n 0, 1) := by decide +kernel
theorem jd_Pr_make_82 : decode jb_Pr_make 82 = .ok (.getfield 7, 3) := by decide +kernel
theorem jd_Pr_make_85 : decode jb_Pr_make 85 = .ok (.iload_n 2, 1) := by decide +kernel
theorem jd_Pr_make_86 : decode jb_Pr_make 86 = .ok (.iastore, 1) := by decide +kernel
theorem jd_Pr_make_87 : decode jb_Pr_make 87 = .ok (.aload_n 0, 1) := by decide +kernel
theorem jd_Pr_make_88 : decode jb_Pr_make 88 = .ok (.getfield 30, 3) := by decide +kernel
theorem jd_Pr_make_91 : decode jb_Pr_make 91 = .ok (.aload_n 0, 1) := by decide +kernel
theorem jd_Pr_make_92 : decode jb_Pr_make 92 = .ok (.getfield 7, 3) := by decide +kernel
theorem jd_Pr_make_95 : decode jb_Pr_make 95 = .ok (.iload_n 3, 1) := by decide +kernel
theorem jd_Pr_make_96 : decode jb_Pr_make 96 = .ok (.iastore, 1) := by decide +kernel
theorem jd_Pr_make_97 : decode jb_Pr_make 97 = .ok (.aload_n 0, 1) := by decide +kernel
theorem jd_Pr_make_98 : decode jb_Pr_make 98 = .ok (.dup, 1) := by decide +kernel
theorem jd_Pr_make_99 : decode jb_Pr_make 99 = .ok (.getfield 7, 3) := by decide +kernel
theorem jd_Pr_make_102 : decode jb_Pr_make 102 = .ok (.iconst 1, 1) := by decide +kernel
theorem jd_Pr_make_103 : decode jb_Pr_make 103 = .ok (.iadd, 1) := by decide +kernel
theorem jd_Pr_make_104 : decode jb_Pr_make 104 = .ok (.putfield 7, 3) := by decide +kernel
theorem jd_Pr_make_107 : decode jb_Pr_make 107 = .ok (.aload_n 0, 1) := by decide +kernel
theorem jd_Pr_make_108 : decode jb_Pr_make 108 = .ok (.getfield 7, 3) := by decide +kernel
theorem jd_Pr_make_111 : decode jb_Pr_make 111 = .ok (.iconst 1, 1) := by decide +kernel
theorem jd_Pr_make_112 : decode jb_Pr_make 112 = .ok (.isub, 1) := by decide +kernel
theorem jd_Pr_make_113 : decode jb_Pr_make 113 = .ok (.ireturn, 1) := by decide +kernel
def f_Pr_make (F : Nat) (x1 : Int32) (x2 : Int32) (x3 : Int32) (I : j_M) : Option (Int32 × j_M) := j_bd (f_Re_valueOf F ((I 202 0) * 120) (I 202 1) I) (fun v1 I2 => j_let (I2 202 1) (fun v3 => j_let (j_wr I2 202 1 0) (fun I4 => (if (I4 208 1) = (-1) then (if j_ok (I4 202 0) 30 = true then j_let (j_wr I4 204 (j_ix (I4 202 0)) v3) (fun I5 => (if j_ok (I5 202 0) 30 = true then j_let (j_wr I5 205 (j_ix (I5 202 0)) x1) (fun I6 => (if j_ok (I6 202 0) 30 = true then j_let (j_wr I6 206 (j_ix (I6 202 0)) x2) (fun I7 => (if j_ok (I7 202 0) 30 = true then j_let (j_wr I7 207 (j_ix (I7 202 0)) x3) (fun I8 => j_let (j_wr I8 202 0 ((I8 202 0) + 1)) (fun I9 => some ((I9 202 0) - 1, I9))) else none)) else none)) else none)) else none) else some ((-100) - (I4 208 1), I4)))))
set_option maxRecDepth 100000 in
set_option maxHeartbeats 4000000 in
theorem k_Pr_make {l : Launch} {g : j_G} {b n : Nat} {P : j_R} {F : Nat} (hF : j_Fx 0 260 P) (hn : 260 ≤ n) {x1 : Int32} {x2 : Int32} {x3 : Int32} {I : j_M} {r : Int32 × j_M}  (h : f_Pr_make F x1 x2 x3 I = some r) : j_Met l g b n P 67 jy_Pr_make jb_Pr_make 5 (some .int) [.ref (b + 202), .int x1, .int x2, .int x3] I r.2 (some (.int r.1)) := by
  unfold f_Pr_make at h
  refine j_enter (plainFor_of_name (by decide)) (Nat.le_of_ble_eq_true rfl) [some (.ref (b + 202)), some (.int x1), some (.int x2), some (.int x3), none] rfl ?_
  intro p e R s m args below meth c X0 hnm hRc hRs
  have X : j_X p R s m args meth c g b 67 jb_Pr_make 5 "PleasureGarden$Prices" (some .int) := X0
  clear X0
  refine j_aload_n X jd_Pr_make_0 rfl rfl ?_
  refine j_getr X jf_Pr_36 jk_9_7 js_202 (j_lt rfl hn) (jp_202_7 hF) jd_Pr_make_1 ?_
  refine j_aload_n X jd_Pr_make_4 rfl rfl ?_
  refine j_getr X jf_Pr_16 jk_9_2 js_202 (j_lt rfl hn) (jp_202_2 hF) jd_Pr_make_5 ?_
  refine j_aload_n X jd_Pr_make_8 rfl rfl ?_
  refine j_get X jf_Pr_7 jk_9_0 js_202 (j_lt rfl hn) jd_Pr_make_9 ?_
  refine j_bipush (v := 120) X jd_Pr_make_12 (by decide) ?_
  refine j_imul X jd_Pr_make_14 ?_
  refine j_aload_n X jd_Pr_make_15 rfl rfl ?_
  refine j_get X jf_Pr_13 jk_9_1 js_202 (j_lt rfl hn) jd_Pr_make_16 ?_
  refine j_callVi (As := [.ref (b + 203), .int ((I 202 0) * 120), .int (I 202 1)]) (st := []) (c0 := 208) X h jc_Re js_208 (j_lt rfl hn) ⟨jqc_Re_valueOf, jqi_Re_valueOf, jqv_Re_valueOf, jqn_Re⟩ jlm_Pr_40 jh_Re_valueOf rfl (by decide) (by decide) (Nat.le_of_ble_eq_true rfl) ⟨Nat.zero_le _, Nat.zero_le _⟩ (fun v0 I0 h => k_Re_valueOf (r := (v0, I0)) hF hn h) jd_Pr_make_19 rfl (fun v1 I2 h => ?_)
  refine j_pop X jd_Pr_make_22 rfl ?_
  refine j_aload_n X jd_Pr_make_23 rfl rfl ?_
  refine j_get X jf_Pr_13 jk_9_1 js_202 (j_lt rfl hn) jd_Pr_make_24 ?_
  refine j_nm h (fun v3 h => ?_)
  refine j_istore (lv' := [some (.ref (b + 202)), some (.int x1), some (.int x2), some (.int x3), some (.int v3)]) X jd_Pr_make_27 (by decide) rfl ?_
  refine j_aload_n X jd_Pr_make_29 rfl rfl ?_
  refine j_iconst (v := 0) X jd_Pr_make_30 (by decide) ?_
  refine j_puti X jt_Pr jto_Pr jn_Pr jf_Pr_13 jk_9_1 js_202 (j_lt rfl hn) (Or.inl rfl) rfl jd_Pr_make_31 ?_
  refine j_mem h (fun I4 h => ?_)
  refine j_aload_n X jd_Pr_make_34 rfl rfl ?_
  refine j_getr X jf_Pr_36 jk_9_7 js_202 (j_lt rfl hn) (jp_202_7 hF) jd_Pr_make_35 ?_
  refine j_get X jf_Pr_44 jk_10_1 js_208 (j_lt rfl hn) jd_Pr_make_38 ?_
  refine j_iconst (v := (-1)) X jd_Pr_make_41 (by decide) ?_
  refine j_icmp_eq (tgt := 56) X jd_Pr_make_42 rfl h (fun h => ?_) (fun h => ?_)
  · refine j_aload_n X jd_Pr_make_56 rfl rfl ?_
    refine j_getr X jf_Pr_20 jk_9_3 js_202 (j_lt rfl hn) (jp_202_3 hF) jd_Pr_make_57 ?_
    refine j_aload_n X jd_Pr_make_60 rfl rfl ?_
    refine j_get X jf_Pr_7 jk_9_0 js_202 (j_lt rfl hn) jd_Pr_make_61 ?_
    refine j_iload X jd_Pr_make_64 rfl ?_
    refine j_iast X js_204 (j_lt rfl hn) jd_Pr_make_66 h (fun h => ?_)
    refine j_mem h (fun I5 h => ?_)
    refine j_aload_n X jd_Pr_make_67 rfl rfl ?_
    refine j_getr X jf_Pr_24 jk_9_4 js_202 (j_lt rfl hn) (jp_202_4 hF) jd_Pr_make_68 ?_
    refine j_aload_n X jd_Pr_make_71 rfl rfl ?_
    refine j_get X jf_Pr_7 jk_9_0 js_202 (j_lt rfl hn) jd_Pr_make_72 ?_
    refine j_iload_n X jd_Pr_make_75 rfl rfl ?_
    refine j_iast X js_205 (j_lt rfl hn) jd_Pr_make_76 h (fun h => ?_)
    refine j_mem h (fun I6 h => ?_)
    refine j_aload_n X jd_Pr_make_77 rfl rfl ?_
    refine j_getr X jf_Pr_27 jk_9_5 js_202 (j_lt rfl hn) (jp_202_5 hF) jd_Pr_make_78 ?_
    refine j_aload_n X jd_Pr_make_81 rfl rfl ?_
    refine j_get X jf_Pr_7 jk_9_0 js_202 (j_lt rfl hn) jd_Pr_make_82 ?_
    refine j_iload_n X jd_Pr_make_85 rfl rfl ?_
    refine j_iast X js_206 (j_lt rfl hn) jd_Pr_make_86 h (fun h => ?_)
    refine j_mem h (fun I7 h => ?_)
    refine j_aload_n X jd_Pr_make_87 rfl rfl ?_
    refine j_getr X jf_Pr_30 jk_9_6 js_202 (j_lt rfl hn) (jp_202_6 hF) jd_Pr_make_88 ?_
    refine j_aload_n X jd_Pr_make_91 rfl rfl ?_
    refine j_get X jf_Pr_7 jk_9_0 js_202 (j_lt rfl hn) jd_Pr_make_92 ?_
    refine j_iload_n X jd_Pr_make_95 rfl rfl ?_
    refine j_iast X js_207 (j_lt rfl hn) jd_Pr_make_96 h (fun h => ?_)
    refine j_mem h (fun I8 h => ?_)
    refine j_aload_n X jd_Pr_make_97 rfl rfl ?_
    refine j_dup X jd_Pr_make_98 rfl ?_
    refine j_get X jf_Pr_7 jk_9_0 js_202 (j_lt rfl hn) jd_Pr_make_99 ?_
    refine j_iconst (v := 1) X jd_Pr_make_102 (by decide) ?_
    refine j_iadd X jd_Pr_make_103 ?_
    refine j_puti X jt_Pr jto_Pr jn_Pr jf_Pr_7 jk_9_0 js_202 (j_lt rfl hn) (Or.inl rfl) rfl jd_Pr_make_104 ?_
    refine j_mem h (fun I9 h => ?_)
    refine j_aload_n X jd_Pr_make_107 rfl rfl ?_
    refine j_get X jf_Pr_7 jk_9_0 js_202 (j_lt rfl hn) jd_Pr_make_108 ?_
    refine j_iconst (v := 1) X jd_Pr_make_111 (by decide) ?_
    refine j_isub X jd_Pr_make_112 ?_
    exact j_iret X rfl jd_Pr_make_113 h
  · refine j_bipush (v := (-100)) X jd_Pr_make_45 (by decide) ?_
    refine j_aload_n X jd_Pr_make_47 rfl rfl ?_
    refine j_getr X jf_Pr_36 jk_9_7 js_202 (j_lt rfl hn) (jp_202_7 hF) jd_Pr_make_48 ?_
    refine j_get X jf_Pr_44 jk_10_1 js_208 (j_lt rfl hn) jd_Pr_make_51 ?_
    refine j_isub X jd_Pr_make_54 ?_
    exact j_iret X rfl jd_Pr_make_55 h
-- PleasureGarden$Prices.read(I)I
theorem jd_Pr_read_0 : decode jb_Pr_read 0 = .ok (.aload_n 0, 1) := by decide +kernel
theorem jd_Pr_read_1 : decode jb_Pr_read 1 = .ok (.getfield 36, 3) := by decide +kernel
theorem jd_Pr_read_4 : decode jb_Pr_read 4 = .ok (.aload_n 0, 1) := by decide +kernel
theorem jd_Pr_read_5 : decode jb_Pr_read 5 = .ok (.getfield 16, 3) := by decide +kernel
theorem jd_Pr_read_8 : decode jb_Pr_read 8 = .ok (.iload_n 1, 1) := by decide +kernel
theorem jd_Pr_read_9 : decode jb_Pr_read 9 = .ok (.bipush 120, 2) := by decide +kernel
theorem jd_Pr_read_11 : decode jb_Pr_read 11 = .ok (.imul, 1) := by decide +kernel
theorem jd_Pr_read_12 : decode jb_Pr_read 12 = .ok (.aload_n 0, 1) := by decide +kernel
theorem jd_Pr_read_13 : decode jb_Pr_read 13 = .ok (.getfield 20, 3) := by decide +kernel
theorem jd_Pr_read_16 : decode jb_Pr_read 16 = .ok (.iload_n 1, 1) := by decide +kernel
theorem jd_Pr_read_17 : decode jb_Pr_read 17 = .ok (.iaload, 1) := by decide +kernel
theorem jd_Pr_read_18 : decode jb_Pr_read 18 = .ok (.invokevirtual 40, 3) := by decide +kernel
theorem jd_Pr_read_21 : decode jb_Pr_read 21 = .ok (.istore_n 2, 1) := by decide +kernel
theorem jd_Pr_read_22 : decode jb_Pr_read 22 = .ok (.iconst 0, 1) := by decide +kernel
theorem jd_Pr_read_23 : decode jb_Pr_read 23 = .ok (.ldc 47, 2) := by decide +kernel
theorem jd_Pr_read_25 : decode jb_Pr_read 25 = .ok (.iload_n 2, 1) := by decide +kernel
theorem jd_Pr_read_26 : decode jb_Pr_read 26 = .ok (.invokestatic 48, 3) := by decide +kernel
theorem jd_Pr_read_29 : decode jb_Pr_read 29 = .ok (.invokestatic 54, 3) := by decide +kernel
theorem jd_Pr_read_32 : decode jb_Pr_read 32 = .ok (.ireturn, 1) := by decide +kernel
def f_Pr_read (F : Nat) (x1 : Int32) (I : j_M) : Option (Int32 × j_M) := (if j_ok x1 30 = true then j_bd (f_Re_valueOf F (x1 * 120) (I 204 (j_ix x1)) I) (fun v1 I2 => j_let (if v1 < 100000 then v1 else 100000) (fun v3 => j_let (if 0 < v3 then v3 else 0) (fun v4 => some (v4, I2)))) else none)
set_option maxRecDepth 100000 in
set_option maxHeartbeats 4000000 in
theorem k_Pr_read {l : Launch} {g : j_G} {b n : Nat} {P : j_R} {F : Nat} (hF : j_Fx 0 260 P) (hn : 260 ≤ n) {x1 : Int32} {I : j_M} {r : Int32 × j_M}  (h : f_Pr_read F x1 I = some r) : j_Met l g b n P 67 jy_Pr_read jb_Pr_read 3 (some .int) [.ref (b + 202), .int x1] I r.2 (some (.int r.1)) := by
  unfold f_Pr_read at h
  refine j_enter (plainFor_of_name (by decide)) (Nat.le_of_ble_eq_true rfl) [some (.ref (b + 202)), some (.int x1), none] rfl ?_
  intro p e R s m args below meth c X0 hnm hRc hRs
  have X : j_X p R s m args meth c g b 67 jb_Pr_read 3 "PleasureGarden$Prices" (some .int) := X0
  clear X0
  refine j_aload_n X jd_Pr_read_0 rfl rfl ?_
  refine j_getr X jf_Pr_36 jk_9_7 js_202 (j_lt rfl hn) (jp_202_7 hF) jd_Pr_read_1 ?_
  refine j_aload_n X jd_Pr_read_4 rfl rfl ?_
  refine j_getr X jf_Pr_16 jk_9_2 js_202 (j_lt rfl hn) (jp_202_2 hF) jd_Pr_read_5 ?_
  refine j_iload_n X jd_Pr_read_8 rfl rfl ?_
  refine j_bipush (v := 120) X jd_Pr_read_9 (by decide) ?_
  refine j_imul X jd_Pr_read_11 ?_
  refine j_aload_n X jd_Pr_read_12 rfl rfl ?_
  refine j_getr X jf_Pr_20 jk_9_3 js_202 (j_lt rfl hn) (jp_202_3 hF) jd_Pr_read_13 ?_
  refine j_iload_n X jd_Pr_read_16 rfl rfl ?_
  refine j_iald X js_204 (j_lt rfl hn) jd_Pr_read_17 h (fun _ h => ?_)
  refine j_callVi (As := [.ref (b + 203), .int (x1 * 120), .int (I 204 (j_ix x1))]) (st := []) (c0 := 208) X h jc_Re js_208 (j_lt rfl hn) ⟨jqc_Re_valueOf, jqi_Re_valueOf, jqv_Re_valueOf, jqn_Re⟩ jlm_Pr_40 jh_Re_valueOf rfl (by decide) (by decide) (Nat.le_of_ble_eq_true rfl) ⟨Nat.zero_le _, Nat.zero_le _⟩ (fun v0 I0 h => k_Re_valueOf (r := (v0, I0)) hF hn h) jd_Pr_read_18 rfl (fun v1 I2 h => ?_)
  refine j_istore_n (lv' := [some (.ref (b + 202)), some (.int x1), some (.int v1)]) X jd_Pr_read_21 rfl (by decide) rfl ?_
  refine j_iconst (v := 0) X jd_Pr_read_22 (by decide) ?_
  refine j_ldc (v := 100000) X jlc_Pr_47 jd_Pr_read_23 ?_
  refine j_iload_n X jd_Pr_read_25 rfl rfl ?_
  refine j_mmin (st := [.int 0]) X jlm_Pr_48 (by decide) (Nat.le_of_ble_eq_true rfl) ⟨Nat.zero_le _, Nat.zero_le _⟩ jd_Pr_read_26 ?_
  refine j_nm h (fun v3 h => ?_)
  refine j_mmax (st := []) X jlm_Pr_54 (by decide) (Nat.le_of_ble_eq_true rfl) ⟨Nat.zero_le _, Nat.zero_le _⟩ jd_Pr_read_29 ?_
  refine j_nm h (fun v4 h => ?_)
  exact j_iret X rfl jd_Pr_read_32 h
