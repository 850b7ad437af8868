-- PleasureGarden.place(II)I
theorem jd_G_place_0 : decode jb_G_place 0 = .ok (.iload_n 1, 1) := by decide +kernel
theorem jd_G_place_1 : decode jb_G_place 1 = .ok (.iconst 1, 1) := by decide +kernel
theorem jd_G_place_2 : decode jb_G_place 2 = .ok (.sipush 999, 3) := by decide +kernel
theorem jd_G_place_5 : decode jb_G_place 5 = .ok (.invokestatic 92, 3) := by decide +kernel
theorem jd_G_place_8 : decode jb_G_place 8 = .ok (.ifCond .eq 12, 3) := by decide +kernel
theorem jd_G_place_11 : decode jb_G_place 11 = .ok (.iload_n 2, 1) := by decide +kernel
theorem jd_G_place_12 : decode jb_G_place 12 = .ok (.iconst 0, 1) := by decide +kernel
theorem jd_G_place_13 : decode jb_G_place 13 = .ok (.iconst 1, 1) := by decide +kernel
theorem jd_G_place_14 : decode jb_G_place 14 = .ok (.invokestatic 92, 3) := by decide +kernel
theorem jd_G_place_17 : decode jb_G_place 17 = .ok (.ifCond .ne 5, 3) := by decide +kernel
theorem jd_G_place_20 : decode jb_G_place 20 = .ok (.iconst (-1), 1) := by decide +kernel
theorem jd_G_place_21 : decode jb_G_place 21 = .ok (.ireturn, 1) := by decide +kernel
theorem jd_G_place_22 : decode jb_G_place 22 = .ok (.aload_n 0, 1) := by decide +kernel
theorem jd_G_place_23 : decode jb_G_place 23 = .ok (.getfield 10, 3) := by decide +kernel
theorem jd_G_place_26 : decode jb_G_place 26 = .ok (.getfield 96, 3) := by decide +kernel
theorem jd_G_place_29 : decode jb_G_place 29 = .ok (.bipush 16, 2) := by decide +kernel
theorem jd_G_place_31 : decode jb_G_place 31 = .ok (.if_icmp .lt 6, 3) := by decide +kernel
theorem jd_G_place_34 : decode jb_G_place 34 = .ok (.bipush (-3), 2) := by decide +kernel
theorem jd_G_place_36 : decode jb_G_place 36 = .ok (.ireturn, 1) := by decide +kernel
theorem jd_G_place_37 : decode jb_G_place 37 = .ok (.aload_n 0, 1) := by decide +kernel
theorem jd_G_place_38 : decode jb_G_place 38 = .ok (.getfield 10, 3) := by decide +kernel
theorem jd_G_place_41 : decode jb_G_place 41 = .ok (.iload_n 1, 1) := by decide +kernel
theorem jd_G_place_42 : decode jb_G_place 42 = .ok (.iload_n 2, 1) := by decide +kernel
theorem jd_G_place_43 : decode jb_G_place 43 = .ok (.iconst 1, 1) := by decide +kernel
theorem jd_G_place_44 : decode jb_G_place 44 = .ok (.if_icmp .ne 7, 3) := by decide +kernel
theorem jd_G_place_47 : decode jb_G_place 47 = .ok (.iconst 1, 1) := by decide +kernel
theorem jd_G_place_48 : decode jb_G_place 48 = .ok (.goto 4, 3) := by decide +kernel
theorem jd_G_place_51 : decode jb_G_place 51 = .ok (.iconst 0, 1) := by decide +kernel
theorem jd_G_place_52 : decode jb_G_place 52 = .ok (.invokevirtual 99, 3) := by decide +kernel
theorem jd_G_place_55 : decode jb_G_place 55 = .ok (.ireturn, 1) := by decide +kernel
def f_G_place_52 (F : Nat)  (s1 : Int32) (s2 : Int32) (I : j_M) : Option (Int32 × j_M) := j_bd (f_Gr_add F s1 s2 I) (fun v1 I2 => some (v1, I2))
def f_G_place (F : Nat) (x1 : Int32) (x2 : Int32) (I : j_M) : Option (Int32 × j_M) := j_bd (f_G_within F x1 1 999 I) (fun v3 I4 => (if v3 = 0 then some ((-1), I4) else j_bd (f_G_within F x2 0 1 I4) (fun v5 I6 => (if v5 = 0 then some ((-1), I6) else (if (I6 1 0) < 16 then (if x2 = 1 then f_G_place_52 F x1 1 I6 else f_G_place_52 F x1 0 I6) else some ((-3), I6))))))
set_option maxRecDepth 100000 in
set_option maxHeartbeats 4000000 in
theorem k_G_place_52 {p : Program} {l : Launch} {e : Env} {R : Room} {s : State} {m : MethodId} {args : Array Value} {below : List Frame} {meth : Method} {c : Code} {g : j_G} {b n : Nat} {P : j_R} {F : Nat} (hF : j_Fx 0 260 P) (hn : 260 ≤ n) (X : j_X p R s m args meth c g b 1 jb_G_place 3 "PleasureGarden" (some .int))  {s1 : Int32} {s2 : Int32} {I : j_M} {r : Int32 × j_M}  (h : f_G_place_52 F s1 s2 I = some r) : j_W p l e R s m args below meth c 3 g b n 0 0 (j_Qi g b n P below args s r) I P 52 [none, none, none] [.int s2, .int s1, .ref (b + 1)] := by
  unfold f_G_place_52 at h
  refine j_callVi (As := [.int s1, .int s2]) (st := []) (c0 := 1) X h jc_Gr js_1 (j_lt rfl hn) ⟨jqc_Gr_add, jqi_Gr_add, jqv_Gr_add, jqn_Gr⟩ jlm_G_99 jh_Gr_add rfl (by decide) (by decide) (Nat.le_of_ble_eq_true rfl) ⟨Nat.zero_le _, Nat.zero_le _⟩ (fun v0 I0 h => k_Gr_add (r := (v0, I0)) hF.gr (j_le hn) h) jd_G_place_52 rfl (fun v1 I2 h => ?_)
  exact j_iret X rfl jd_G_place_55 h
set_option maxRecDepth 100000 in
set_option maxHeartbeats 4000000 in
theorem k_G_place {l : Launch} {g : j_G} {b n : Nat} {P : j_R} {F : Nat} (hF : j_Fx 0 260 P) (hn : 260 ≤ n) {x1 : Int32} {x2 : Int32} {I : j_M} {r : Int32 × j_M}  (h : f_G_place F x1 x2 I = some r) : j_Met l g b n P 1 jy_G_place jb_G_place 3 (some .int) [.ref (b + 0), .int x1, .int x2] I r.2 (some (.int r.1)) := by
  unfold f_G_place at h
  refine j_enter (plainFor_of_name (by decide)) (Nat.le_of_ble_eq_true rfl) [some (.ref (b + 0)), some (.int x1), some (.int x2)] rfl ?_
  intro p e R s m args below meth c X0 hnm hRc hRs
  have X : j_X p R s m args meth c g b 1 jb_G_place 3 "PleasureGarden" (some .int) := X0
  clear X0
  refine j_iload_n X jd_G_place_0 rfl rfl ?_
  refine j_iconst (v := 1) X jd_G_place_1 (by decide) ?_
  refine j_sipush (v := 999) X jd_G_place_2 (by decide) ?_
  refine j_callSi (As := [.int x1, .int 1, .int 999]) (st := []) X h ⟨jqc_G_within, jqs_G_within, jqn_G⟩ jlm_G_92 jh_G_within.2 rfl (by decide) (by decide) (Nat.le_of_ble_eq_true rfl) ⟨Nat.zero_le _, Nat.zero_le _⟩ (fun v0 I0 h => k_G_within (r := (v0, I0)) hF hn h) jd_G_place_5 rfl (fun v3 I4 h => ?_)
  refine j_if_eq (tgt := 20) X jd_G_place_8 rfl h (fun h => ?_) (fun h => ?_)
  · refine j_iconst (v := (-1)) X jd_G_place_20 (by decide) ?_
    exact j_iret X rfl jd_G_place_21 h
  · refine j_iload_n X jd_G_place_11 rfl rfl ?_
    refine j_iconst (v := 0) X jd_G_place_12 (by decide) ?_
    refine j_iconst (v := 1) X jd_G_place_13 (by decide) ?_
    refine j_callSi (As := [.int x2, .int 0, .int 1]) (st := []) X h ⟨jqc_G_within, jqs_G_within, jqn_G⟩ jlm_G_92 jh_G_within.2 rfl (by decide) (by decide) (Nat.le_of_ble_eq_true rfl) ⟨Nat.zero_le _, Nat.zero_le _⟩ (fun v0 I0 h => k_G_within (r := (v0, I0)) hF hn h) jd_G_place_14 rfl (fun v5 I6 h => ?_)
    refine j_if_ne (tgt := 22) X jd_G_place_17 rfl h (fun h => ?_) (fun h => ?_)
    · refine j_iconst (v := (-1)) X jd_G_place_20 (by decide) ?_
      exact j_iret X rfl jd_G_place_21 h
    · refine j_aload_n X jd_G_place_22 rfl rfl ?_
      refine j_getr X jf_G_10 jk_0_0 js_0 (j_lt rfl hn) (jp_0_0 hF) jd_G_place_23 ?_
      refine j_get X jf_G_96 jk_1_0 js_1 (j_lt rfl hn) jd_G_place_26 ?_
      refine j_bipush (v := 16) X jd_G_place_29 (by decide) ?_
      refine j_icmp_lt (tgt := 37) X jd_G_place_31 rfl h (fun h => ?_) (fun h => ?_)
      · refine j_aload_n X jd_G_place_37 rfl rfl ?_
        refine j_getr X jf_G_10 jk_0_0 js_0 (j_lt rfl hn) (jp_0_0 hF) jd_G_place_38 ?_
        refine j_iload_n X jd_G_place_41 rfl rfl ?_
        refine j_iload_n X jd_G_place_42 rfl rfl ?_
        refine j_iconst (v := 1) X jd_G_place_43 (by decide) ?_
        refine j_icmp_ne (tgt := 51) X jd_G_place_44 rfl h (fun h => ?_) (fun h => ?_)
        · refine j_iconst (v := 1) X jd_G_place_47 (by decide) ?_
          refine j_goto (tgt := 52) X jd_G_place_48 rfl ?_
          refine j_sub [false, false, false] (lv' := [none, none, none]) rfl ?_
          exact k_G_place_52 hF hn X h
        · refine j_iconst (v := 0) X jd_G_place_51 (by decide) ?_
          refine j_sub [false, false, false] (lv' := [none, none, none]) rfl ?_
          exact k_G_place_52 hF hn X h
      · refine j_bipush (v := (-3)) X jd_G_place_34 (by decide) ?_
        exact j_iret X rfl jd_G_place_36 h
-- PleasureGarden.rain(II)I
theorem jd_G_rain_0 : decode jb_G_rain 0 = .ok (.iload_n 1, 1) := by decide +kernel
theorem jd_G_rain_1 : decode jb_G_rain 1 = .ok (.aload_n 0, 1) := by decide +kernel
theorem jd_G_rain_2 : decode jb_G_rain 2 = .ok (.getfield 80, 3) := by decide +kernel
theorem jd_G_rain_5 : decode jb_G_rain 5 = .ok (.if_icmp .lt 15, 3) := by decide +kernel
theorem jd_G_rain_8 : decode jb_G_rain 8 = .ok (.iload_n 2, 1) := by decide +kernel
theorem jd_G_rain_9 : decode jb_G_rain 9 = .ok (.iload_n 1, 1) := by decide +kernel
theorem jd_G_rain_10 : decode jb_G_rain 10 = .ok (.if_icmp .le 10, 3) := by decide +kernel
theorem jd_G_rain_13 : decode jb_G_rain 13 = .ok (.iload_n 2, 1) := by decide +kernel
theorem jd_G_rain_14 : decode jb_G_rain 14 = .ok (.sipush 480, 3) := by decide +kernel
theorem jd_G_rain_17 : decode jb_G_rain 17 = .ok (.if_icmp .le 5, 3) := by decide +kernel
theorem jd_G_rain_20 : decode jb_G_rain 20 = .ok (.iconst (-1), 1) := by decide +kernel
theorem jd_G_rain_21 : decode jb_G_rain 21 = .ok (.ireturn, 1) := by decide +kernel
theorem jd_G_rain_22 : decode jb_G_rain 22 = .ok (.aload_n 0, 1) := by decide +kernel
theorem jd_G_rain_23 : decode jb_G_rain 23 = .ok (.getfield 19, 3) := by decide +kernel
theorem jd_G_rain_26 : decode jb_G_rain 26 = .ok (.getfield 116, 3) := by decide +kernel
theorem jd_G_rain_29 : decode jb_G_rain 29 = .ok (.bipush 20, 2) := by decide +kernel
theorem jd_G_rain_31 : decode jb_G_rain 31 = .ok (.if_icmp .lt 6, 3) := by decide +kernel
theorem jd_G_rain_34 : decode jb_G_rain 34 = .ok (.bipush (-3), 2) := by decide +kernel
theorem jd_G_rain_36 : decode jb_G_rain 36 = .ok (.ireturn, 1) := by decide +kernel
theorem jd_G_rain_37 : decode jb_G_rain 37 = .ok (.aload_n 0, 1) := by decide +kernel
theorem jd_G_rain_38 : decode jb_G_rain 38 = .ok (.getfield 19, 3) := by decide +kernel
theorem jd_G_rain_41 : decode jb_G_rain 41 = .ok (.iload_n 1, 1) := by decide +kernel
theorem jd_G_rain_42 : decode jb_G_rain 42 = .ok (.iload_n 2, 1) := by decide +kernel
theorem jd_G_rain_43 : decode jb_G_rain 43 = .ok (.invokevirtual 119, 3) := by decide +kernel
theorem jd_G_rain_46 : decode jb_G_rain 46 = .ok (.ireturn, 1) := by decide +kernel
def f_G_rain (F : Nat) (x1 : Int32) (x2 : Int32) (I : j_M) : Option (Int32 × j_M) := (if x1 < (I 0 11) then some ((-1), I) else (if x2 ≤ x1 then some ((-1), I) else (if x2 ≤ 480 then (if (I 38 0) < 20 then j_bd (f_Sk_add F x1 x2 I) (fun v1 I2 => some (v1, I2)) else some ((-3), I)) else some ((-1), I))))
set_option maxRecDepth 100000 in
set_option maxHeartbeats 4000000 in
theorem k_G_rain {l : Launch} {g : j_G} {b n : Nat} {P : j_R} {F : Nat} (hF : j_Fx 0 260 P) (hn : 260 ≤ n) {x1 : Int32} {x2 : Int32} {I : j_M} {r : Int32 × j_M}  (h : f_G_rain F x1 x2 I = some r) : j_Met l g b n P 1 jy_G_rain jb_G_rain 3 (some .int) [.ref (b + 0), .int x1, .int x2] I r.2 (some (.int r.1)) := by
  unfold f_G_rain at h
  refine j_enter (plainFor_of_name (by decide)) (Nat.le_of_ble_eq_true rfl) [some (.ref (b + 0)), some (.int x1), some (.int x2)] rfl ?_
  intro p e R s m args below meth c X0 hnm hRc hRs
  have X : j_X p R s m args meth c g b 1 jb_G_rain 3 "PleasureGarden" (some .int) := X0
  clear X0
  refine j_iload_n X jd_G_rain_0 rfl rfl ?_
  refine j_aload_n X jd_G_rain_1 rfl rfl ?_
  refine j_get X jf_G_80 jk_0_11 js_0 (j_lt rfl hn) jd_G_rain_2 ?_
  refine j_icmp_lt (tgt := 20) X jd_G_rain_5 rfl h (fun h => ?_) (fun h => ?_)
  · refine j_iconst (v := (-1)) X jd_G_rain_20 (by decide) ?_
    exact j_iret X rfl jd_G_rain_21 h
  · refine j_iload_n X jd_G_rain_8 rfl rfl ?_
    refine j_iload_n X jd_G_rain_9 rfl rfl ?_
    refine j_icmp_le (tgt := 20) X jd_G_rain_10 rfl h (fun h => ?_) (fun h => ?_)
    · refine j_iconst (v := (-1)) X jd_G_rain_20 (by decide) ?_
      exact j_iret X rfl jd_G_rain_21 h
    · refine j_iload_n X jd_G_rain_13 rfl rfl ?_
      refine j_sipush (v := 480) X jd_G_rain_14 (by decide) ?_
      refine j_icmp_le (tgt := 22) X jd_G_rain_17 rfl h (fun h => ?_) (fun h => ?_)
      · refine j_aload_n X jd_G_rain_22 rfl rfl ?_
        refine j_getr X jf_G_19 jk_0_1 js_0 (j_lt rfl hn) (jp_0_1 hF) jd_G_rain_23 ?_
        refine j_get X jf_G_116 jk_2_0 js_38 (j_lt rfl hn) jd_G_rain_26 ?_
        refine j_bipush (v := 20) X jd_G_rain_29 (by decide) ?_
        refine j_icmp_lt (tgt := 37) X jd_G_rain_31 rfl h (fun h => ?_) (fun h => ?_)
        · refine j_aload_n X jd_G_rain_37 rfl rfl ?_
          refine j_getr X jf_G_19 jk_0_1 js_0 (j_lt rfl hn) (jp_0_1 hF) jd_G_rain_38 ?_
          refine j_iload_n X jd_G_rain_41 rfl rfl ?_
          refine j_iload_n X jd_G_rain_42 rfl rfl ?_
          refine j_callVi (As := [.int x1, .int x2]) (st := []) (c0 := 38) X h jc_Sk js_38 (j_lt rfl hn) ⟨jqc_Sk_add, jqi_Sk_add, jqv_Sk_add, jqn_Sk⟩ jlm_G_119 jh_Sk_add rfl (by decide) (by decide) (Nat.le_of_ble_eq_true rfl) ⟨Nat.zero_le _, Nat.zero_le _⟩ (fun v0 I0 h => k_Sk_add (r := (v0, I0)) hF hn h) jd_G_rain_43 rfl (fun v1 I2 h => ?_)
          exact j_iret X rfl jd_G_rain_46 h
        · refine j_bipush (v := (-3)) X jd_G_rain_34 (by decide) ?_
          exact j_iret X rfl jd_G_rain_36 h
      · refine j_iconst (v := (-1)) X jd_G_rain_20 (by decide) ?_
        exact j_iret X rfl jd_G_rain_21 h
-- PleasureGarden.sell(II)I
theorem jd_G_sell_0 : decode jb_G_sell 0 = .ok (.iload_n 1, 1) := by decide +kernel
theorem jd_G_sell_1 : decode jb_G_sell 1 = .ok (.iconst 0, 1) := by decide +kernel
theorem jd_G_sell_2 : decode jb_G_sell 2 = .ok (.sipush 299, 3) := by decide +kernel
theorem jd_G_sell_5 : decode jb_G_sell 5 = .ok (.invokestatic 92, 3) := by decide +kernel
theorem jd_G_sell_8 : decode jb_G_sell 8 = .ok (.ifCond .eq 14, 3) := by decide +kernel
theorem jd_G_sell_11 : decode jb_G_sell 11 = .ok (.iload_n 2, 1) := by decide +kernel
theorem jd_G_sell_12 : decode jb_G_sell 12 = .ok (.iload_n 1, 1) := by decide +kernel
theorem jd_G_sell_13 : decode jb_G_sell 13 = .ok (.sipush 299, 3) := by decide +kernel
theorem jd_G_sell_16 : decode jb_G_sell 16 = .ok (.invokestatic 92, 3) := by decide +kernel
theorem jd_G_sell_19 : decode jb_G_sell 19 = .ok (.ifCond .ne 5, 3) := by decide +kernel
theorem jd_G_sell_22 : decode jb_G_sell 22 = .ok (.iconst (-1), 1) := by decide +kernel
theorem jd_G_sell_23 : decode jb_G_sell 23 = .ok (.ireturn, 1) := by decide +kernel
theorem jd_G_sell_24 : decode jb_G_sell 24 = .ok (.iconst 0, 1) := by decide +kernel
theorem jd_G_sell_25 : decode jb_G_sell 25 = .ok (.istore_n 3, 1) := by decide +kernel
theorem jd_G_sell_26 : decode jb_G_sell 26 = .ok (.iload_n 1, 1) := by decide +kernel
theorem jd_G_sell_27 : decode jb_G_sell 27 = .ok (.istore 4, 2) := by decide +kernel
theorem jd_G_sell_29 : decode jb_G_sell 29 = .ok (.iload 4, 2) := by decide +kernel
theorem jd_G_sell_31 : decode jb_G_sell 31 = .ok (.iload_n 2, 1) := by decide +kernel
theorem jd_G_sell_32 : decode jb_G_sell 32 = .ok (.if_icmp .gt 30, 3) := by decide +kernel
theorem jd_G_sell_35 : decode jb_G_sell 35 = .ok (.aload_n 0, 1) := by decide +kernel
theorem jd_G_sell_36 : decode jb_G_sell 36 = .ok (.getfield 23, 3) := by decide +kernel
theorem jd_G_sell_39 : decode jb_G_sell 39 = .ok (.iload 4, 2) := by decide +kernel
theorem jd_G_sell_41 : decode jb_G_sell 41 = .ok (.baload, 1) := by decide +kernel
theorem jd_G_sell_42 : decode jb_G_sell 42 = .ok (.ifCond .ne 14, 3) := by decide +kernel
theorem jd_G_sell_45 : decode jb_G_sell 45 = .ok (.aload_n 0, 1) := by decide +kernel
theorem jd_G_sell_46 : decode jb_G_sell 46 = .ok (.getfield 23, 3) := by decide +kernel
theorem jd_G_sell_49 : decode jb_G_sell 49 = .ok (.iload 4, 2) := by decide +kernel
theorem jd_G_sell_51 : decode jb_G_sell 51 = .ok (.iconst 1, 1) := by decide +kernel
theorem jd_G_sell_52 : decode jb_G_sell 52 = .ok (.bastore, 1) := by decide +kernel
theorem jd_G_sell_53 : decode jb_G_sell 53 = .ok (.iinc 3 1, 3) := by decide +kernel
theorem jd_G_sell_56 : decode jb_G_sell 56 = .ok (.iinc 4 1, 3) := by decide +kernel
theorem jd_G_sell_59 : decode jb_G_sell 59 = .ok (.goto (-30), 3) := by decide +kernel
theorem jd_G_sell_62 : decode jb_G_sell 62 = .ok (.iload_n 3, 1) := by decide +kernel
theorem jd_G_sell_63 : decode jb_G_sell 63 = .ok (.ireturn, 1) := by decide +kernel
def f_G_sell_56 (F : Nat) (kb29 : Int32 → Int32 → Int32 → j_M → Option (Int32 × j_M)) (x2 : Int32) (x3 : Int32) (x4 : Int32) (I : j_M) : Option (Int32 × j_M) := j_let (x4 + 1) (fun v1 => kb29 x2 x3 v1 I)
def f_G_sell_29b (F : Nat) (kb29 : Int32 → Int32 → Int32 → j_M → Option (Int32 × j_M)) (x2 : Int32) (x3 : Int32) (x4 : Int32) (I : j_M) : Option (Int32 × j_M) := (if x2 < x4 then some (x3, I) else (if j_ok x4 300 = true then (if (I 40 (j_ix x4)) = 0 then (if j_ok x4 300 = true then j_let (j_wr I 40 (j_ix x4) (1 &&& 1)) (fun I2 => j_let (x3 + 1) (fun v3 => f_G_sell_56 F kb29 x2 v3 x4 I2)) else none) else f_G_sell_56 F kb29 x2 x3 x4 I) else none))
def f_G_sell_29 (F : Nat)  (x2 : Int32) (x3 : Int32) (x4 : Int32) (I : j_M) : Option (Int32 × j_M) := j_it (fun (again : Int32 × Int32 × Int32 × j_M → Option (Int32 × j_M)) (q : Int32 × Int32 × Int32 × j_M) => f_G_sell_29b F  (fun x2 x3 x4 I => again (x2, x3, x4, I))  q.1 q.2.1 q.2.2.1 q.2.2.2) F (x2, x3, x4, I)
def f_G_sell (F : Nat) (x1 : Int32) (x2 : Int32) (I : j_M) : Option (Int32 × j_M) := j_bd (f_G_within F x1 0 299 I) (fun v4 I5 => (if v4 = 0 then some ((-1), I5) else j_bd (f_G_within F x2 x1 299 I5) (fun v6 I7 => (if v6 = 0 then some ((-1), I7) else f_G_sell_29 F x2 0 x1 I7))))
set_option maxRecDepth 100000 in
set_option maxHeartbeats 4000000 in
theorem k_G_sell_56 {p : Program} {l : Launch} {e : Env} {R : Room} {s : State} {m : MethodId} {args : Array Value} {below : List Frame} {meth : Method} {c : Code} {g : j_G} {b n : Nat} {P : j_R} {F : Nat} (hF : j_Fx 0 260 P) (hn : 260 ≤ n) (X : j_X p R s m args meth c g b 1 jb_G_sell 5 "PleasureGarden" (some .int)) {kb29 : Int32 → Int32 → Int32 → j_M → Option (Int32 × j_M)} (hkb29 : ∀ (x2 : Int32) (x3 : Int32) (x4 : Int32) (I : j_M) (r : Int32 × j_M), kb29 x2 x3 x4 I = some r → j_W p l e R s m args below meth c 5 g b n 0 0 (j_Qi g b n P below args s r) I P 29 [some (.ref (b + 0)), none, some (.int x2), some (.int x3), some (.int x4)] []) {x2 : Int32} {x3 : Int32} {x4 : Int32} {I : j_M} {r : Int32 × j_M}  (h : f_G_sell_56 F kb29 x2 x3 x4 I = some r) : j_W p l e R s m args below meth c 5 g b n 0 0 (j_Qi g b n P below args s r) I P 56 [some (.ref (b + 0)), none, some (.int x2), some (.int x3), some (.int x4)] [] := by
  unfold f_G_sell_56 at h
  obtain ⟨v1, ev1, h⟩ := j_ex h
  refine j_iinc (v := v1) (lv' := [some (.ref (b + 0)), none, some (.int x2), some (.int x3), some (.int v1)]) X jd_G_sell_56 rfl (by rw [ev1]; rfl) (by decide) rfl ?_
  refine j_goto (tgt := 29) X jd_G_sell_59 rfl ?_
  exact hkb29 _ _ _ _ _ h
set_option maxRecDepth 100000 in
set_option maxHeartbeats 4000000 in
theorem k_G_sell_29b {p : Program} {l : Launch} {e : Env} {R : Room} {s : State} {m : MethodId} {args : Array Value} {below : List Frame} {meth : Method} {c : Code} {g : j_G} {b n : Nat} {P : j_R} {F : Nat} (hF : j_Fx 0 260 P) (hn : 260 ≤ n) (X : j_X p R s m args meth c g b 1 jb_G_sell 5 "PleasureGarden" (some .int)) {kb29 : Int32 → Int32 → Int32 → j_M → Option (Int32 × j_M)} (hkb29 : ∀ (x2 : Int32) (x3 : Int32) (x4 : Int32) (I : j_M) (r : Int32 × j_M), kb29 x2 x3 x4 I = some r → j_W p l e R s m args below meth c 5 g b n 0 0 (j_Qi g b n P below args s r) I P 29 [some (.ref (b + 0)), none, some (.int x2), some (.int x3), some (.int x4)] []) {x2 : Int32} {x3 : Int32} {x4 : Int32} {I : j_M} {r : Int32 × j_M}  (h : f_G_sell_29b F kb29 x2 x3 x4 I = some r) : j_W p l e R s m args below meth c 5 g b n 0 0 (j_Qi g b n P below args s r) I P 29 [some (.ref (b + 0)), none, some (.int x2), some (.int x3), some (.int x4)] [] := by
  unfold f_G_sell_29b at h
  refine j_iload X jd_G_sell_29 rfl ?_
  refine j_iload_n X jd_G_sell_31 rfl rfl ?_
  refine j_icmp_gt (tgt := 62) X jd_G_sell_32 rfl h (fun h => ?_) (fun h => ?_)
  · refine j_iload_n X jd_G_sell_62 rfl rfl ?_
    exact j_iret X rfl jd_G_sell_63 h
  · refine j_aload_n X jd_G_sell_35 rfl rfl ?_
    refine j_getr X jf_G_23 jk_0_2 js_0 (j_lt rfl hn) (jp_0_2 hF) jd_G_sell_36 ?_
    refine j_iload X jd_G_sell_39 rfl ?_
    refine j_zald X js_40 (j_lt rfl hn) jd_G_sell_41 h (fun _ h => ?_)
    refine j_if_ne (tgt := 56) X jd_G_sell_42 rfl h (fun h => ?_) (fun h => ?_)
    · refine j_aload_n X jd_G_sell_45 rfl rfl ?_
      refine j_getr X jf_G_23 jk_0_2 js_0 (j_lt rfl hn) (jp_0_2 hF) jd_G_sell_46 ?_
      refine j_iload X jd_G_sell_49 rfl ?_
      refine j_iconst (v := 1) X jd_G_sell_51 (by decide) ?_
      refine j_zast X js_40 (j_lt rfl hn) jd_G_sell_52 h (fun h => ?_)
      refine j_mem h (fun I2 h => ?_)
      obtain ⟨v3, ev3, h⟩ := j_ex h
      refine j_iinc (v := v3) (lv' := [some (.ref (b + 0)), none, some (.int x2), some (.int v3), some (.int x4)]) X jd_G_sell_53 rfl (by rw [ev3]; rfl) (by decide) rfl ?_
      exact k_G_sell_56 hF hn X hkb29 h
    · exact k_G_sell_56 hF hn X hkb29 h
set_option maxRecDepth 100000 in
set_option maxHeartbeats 4000000 in
theorem k_G_sell_29 {p : Program} {l : Launch} {e : Env} {R : Room} {s : State} {m : MethodId} {args : Array Value} {below : List Frame} {meth : Method} {c : Code} {g : j_G} {b n : Nat} {P : j_R} {F : Nat} (hF : j_Fx 0 260 P) (hn : 260 ≤ n) (X : j_X p R s m args meth c g b 1 jb_G_sell 5 "PleasureGarden" (some .int))  {x2 : Int32} {x3 : Int32} {x4 : Int32} {I : j_M} {r : Int32 × j_M} (h : f_G_sell_29 F x2 x3 x4 I = some r) : j_W p l e R s m args below meth c 5 g b n 0 0 (j_Qi g b n P below args s r) I P 29 [some (.ref (b + 0)), none, some (.int x2), some (.int x3), some (.int x4)] [] := by
  refine j_loop (G := fun (q : Int32 × Int32 × Int32 × j_M) (r : Int32 × j_M) => j_W p l e R s m args below meth c 5 g b n 0 0 (j_Qi g b n P below args s r) q.2.2.2 P 29 [some (.ref (b + 0)), none, some (.int (q.1)), some (.int (q.2.1)), some (.int (q.2.2.1))] []) ?_ F (x2, x3, x4, I) r h
  intro again hrec0 q r h
  exact k_G_sell_29b hF hn X (fun x2 x3 x4 I r h => hrec0 (x2, x3, x4, I) r h)  h
set_option maxRecDepth 100000 in
set_option maxHeartbeats 4000000 in
theorem k_G_sell {l : Launch} {g : j_G} {b n : Nat} {P : j_R} {F : Nat} (hF : j_Fx 0 260 P) (hn : 260 ≤ n) {x1 : Int32} {x2 : Int32} {I : j_M} {r : Int32 × j_M}  (h : f_G_sell F x1 x2 I = some r) : j_Met l g b n P 1 jy_G_sell jb_G_sell 5 (some .int) [.ref (b + 0), .int x1, .int x2] I r.2 (some (.int r.1)) := by
  unfold f_G_sell at h
  refine j_enter (plainFor_of_name (by decide)) (Nat.le_of_ble_eq_true rfl) [some (.ref (b + 0)), some (.int x1), some (.int x2), none, none] rfl ?_
  intro p e R s m args below meth c X0 hnm hRc hRs
  have X : j_X p R s m args meth c g b 1 jb_G_sell 5 "PleasureGarden" (some .int) := X0
  clear X0
  refine j_iload_n X jd_G_sell_0 rfl rfl ?_
  refine j_iconst (v := 0) X jd_G_sell_1 (by decide) ?_
  refine j_sipush (v := 299) X jd_G_sell_2 (by decide) ?_
  refine j_callSi (As := [.int x1, .int 0, .int 299]) (st := []) X h ⟨jqc_G_within, jqs_G_within, jqn_G⟩ jlm_G_92 jh_G_within.2 rfl (by decide) (by decide) (Nat.le_of_ble_eq_true rfl) ⟨Nat.zero_le _, Nat.zero_le _⟩ (fun v0 I0 h => k_G_within (r := (v0, I0)) hF hn h) jd_G_sell_5 rfl (fun v4 I5 h => ?_)
  refine j_if_eq (tgt := 22) X jd_G_sell_8 rfl h (fun h => ?_) (fun h => ?_)
  · refine j_iconst (v := (-1)) X jd_G_sell_22 (by decide) ?_
    exact j_iret X rfl jd_G_sell_23 h
  · refine j_iload_n X jd_G_sell_11 rfl rfl ?_
    refine j_iload_n X jd_G_sell_12 rfl rfl ?_
    refine j_sipush (v := 299) X jd_G_sell_13 (by decide) ?_
    refine j_callSi (As := [.int x2, .int x1, .int 299]) (st := []) X h ⟨jqc_G_within, jqs_G_within, jqn_G⟩ jlm_G_92 jh_G_within.2 rfl (by decide) (by decide) (Nat.le_of_ble_eq_true rfl) ⟨Nat.zero_le _, Nat.zero_le _⟩ (fun v0 I0 h => k_G_within (r := (v0, I0)) hF hn h) jd_G_sell_16 rfl (fun v6 I7 h => ?_)
    refine j_if_ne (tgt := 24) X jd_G_sell_19 rfl h (fun h => ?_) (fun h => ?_)
    · refine j_iconst (v := (-1)) X jd_G_sell_22 (by decide) ?_
      exact j_iret X rfl jd_G_sell_23 h
    · refine j_iconst (v := 0) X jd_G_sell_24 (by decide) ?_
      refine j_istore_n (lv' := [some (.ref (b + 0)), some (.int x1), some (.int x2), some (.int 0), none]) X jd_G_sell_25 rfl (by decide) rfl ?_
      refine j_iload_n X jd_G_sell_26 rfl rfl ?_
      refine j_istore (lv' := [some (.ref (b + 0)), some (.int x1), some (.int x2), some (.int 0), some (.int x1)]) X jd_G_sell_27 (by decide) rfl ?_
      refine j_sub [true, false, true, true, true] (lv' := [some (.ref (b + 0)), none, some (.int x2), some (.int 0), some (.int x1)]) rfl ?_
      exact k_G_sell_29 hF hn X h
-- PleasureGarden.party(II)I
theorem jd_G_party_0 : decode jb_G_party 0 = .ok (.aload_n 0, 1) := by decide +kernel
theorem jd_G_party_1 : decode jb_G_party 1 = .ok (.getfield 30, 3) := by decide +kernel
theorem jd_G_party_4 : decode jb_G_party 4 = .ok (.iload_n 1, 1) := by decide +kernel
theorem jd_G_party_5 : decode jb_G_party 5 = .ok (.invokevirtual 147, 3) := by decide +kernel
theorem jd_G_party_8 : decode jb_G_party 8 = .ok (.ifCond .eq 19, 3) := by decide +kernel
theorem jd_G_party_11 : decode jb_G_party 11 = .ok (.aload_n 0, 1) := by decide +kernel
theorem jd_G_party_12 : decode jb_G_party 12 = .ok (.getfield 30, 3) := by decide +kernel
theorem jd_G_party_15 : decode jb_G_party 15 = .ok (.getfield 148, 3) := by decide +kernel
theorem jd_G_party_18 : decode jb_G_party 18 = .ok (.iload_n 1, 1) := by decide +kernel
theorem jd_G_party_19 : decode jb_G_party 19 = .ok (.aaload, 1) := by decide +kernel
theorem jd_G_party_20 : decode jb_G_party 20 = .ok (.iload_n 2, 1) := by decide +kernel
theorem jd_G_party_21 : decode jb_G_party 21 = .ok (.invokevirtual 166, 3) := by decide +kernel
theorem jd_G_party_24 : decode jb_G_party 24 = .ok (.goto 4, 3) := by decide +kernel
theorem jd_G_party_27 : decode jb_G_party 27 = .ok (.iconst (-1), 1) := by decide +kernel
theorem jd_G_party_28 : decode jb_G_party 28 = .ok (.ireturn, 1) := by decide +kernel
def f_G_party (F : Nat) (x1 : Int32) (x2 : Int32) (I : j_M) : Option (Int32 × j_M) := j_bd (f_Gu_has F x1 I) (fun v1 I2 => (if v1 = 0 then some ((-1), I2) else (if j_ok x1 100 = true then j_bd (f_Pa_tell F (j_ix x1) x2 I2) (fun v4 I5 => some (v4, I5)) else none)))
set_option maxRecDepth 100000 in
set_option maxHeartbeats 4000000 in
theorem k_G_party {l : Launch} {g : j_G} {b n : Nat} {P : j_R} {F : Nat} (hF : j_Fx 0 260 P) (hn : 260 ≤ n) {x1 : Int32} {x2 : Int32} {I : j_M} {r : Int32 × j_M}  (h : f_G_party F x1 x2 I = some r) : j_Met l g b n P 1 jy_G_party jb_G_party 3 (some .int) [.ref (b + 0), .int x1, .int x2] I r.2 (some (.int r.1)) := by
  unfold f_G_party at h
  refine j_enter (plainFor_of_name (by decide)) (Nat.le_of_ble_eq_true rfl) [some (.ref (b + 0)), some (.int x1), some (.int x2)] rfl ?_
  intro p e R s m args below meth c X0 hnm hRc hRs
  have X : j_X p R s m args meth c g b 1 jb_G_party 3 "PleasureGarden" (some .int) := X0
  clear X0
  refine j_aload_n X jd_G_party_0 rfl rfl ?_
  refine j_getr X jf_G_30 jk_0_3 js_0 (j_lt rfl hn) (jp_0_3 hF) jd_G_party_1 ?_
  refine j_iload_n X jd_G_party_4 rfl rfl ?_
  refine j_callVi (As := [.int x1]) (st := []) (c0 := 41) X h jc_Gu js_41 (j_lt rfl hn) ⟨jqc_Gu_has, jqi_Gu_has, jqv_Gu_has, jqn_Gu⟩ jlm_G_147 jh_Gu_has rfl (by decide) (by decide) (Nat.le_of_ble_eq_true rfl) ⟨Nat.zero_le _, Nat.zero_le _⟩ (fun v0 I0 h => k_Gu_has (r := (v0, I0)) hF hn h) jd_G_party_5 rfl (fun v1 I2 h => ?_)
  refine j_if_eq (tgt := 27) X jd_G_party_8 rfl h (fun h => ?_) (fun h => ?_)
  · refine j_iconst (v := (-1)) X jd_G_party_27 (by decide) ?_
    exact j_iret X rfl jd_G_party_28 h
  · refine j_aload_n X jd_G_party_11 rfl rfl ?_
    refine j_getr X jf_G_30 jk_0_3 js_0 (j_lt rfl hn) (jp_0_3 hF) jd_G_party_12 ?_
    refine j_getr X jf_G_148 jk_3_1 js_41 (j_lt rfl hn) (jp_41_1 hF) jd_G_party_15 ?_
    refine j_iload_n X jd_G_party_18 rfl rfl ?_
    refine j_aald X rfl rfl js_42 (j_lt rfl hn) jd_G_party_19 (fun q => ja_42 hF _ (j_ok_lt q)) h (fun hb3 h => ?_)
    refine j_iload_n X jd_G_party_20 rfl rfl ?_
    refine j_callVi (As := [.int x2]) (st := []) (c0 := (43 + (j_ix x1))) X h jc_Pa (jsp_43 (j_ok_lt hb3)) (j_ltq (j_ok_lt hb3) rfl hn) ⟨jqc_Pa_tell, jqi_Pa_tell, jqv_Pa_tell, jqn_Pa⟩ jlm_G_166 jh_Pa_tell rfl (by decide) (by decide) (Nat.le_of_ble_eq_true rfl) ⟨Nat.zero_le _, Nat.zero_le _⟩ (fun v0 I0 h => k_Pa_tell (r := (v0, I0)) hF hn (j_ok_lt hb3) h) jd_G_party_21 rfl (fun v4 I5 h => ?_)
    refine j_goto (tgt := 28) X jd_G_party_24 rfl ?_
    exact j_iret X rfl jd_G_party_28 h
-- PleasureGarden.heads(I)I
theorem jd_G_heads_0 : decode jb_G_heads 0 = .ok (.aload_n 0, 1) := by decide +kernel
theorem jd_G_heads_1 : decode jb_G_heads 1 = .ok (.getfield 10, 3) := by decide +kernel
theorem jd_G_heads_4 : decode jb_G_heads 4 = .ok (.iload_n 1, 1) := by decide +kernel
theorem jd_G_heads_5 : decode jb_G_heads 5 = .ok (.invokevirtual 103, 3) := by decide +kernel
theorem jd_G_heads_8 : decode jb_G_heads 8 = .ok (.ifCond .eq 14, 3) := by decide +kernel
theorem jd_G_heads_11 : decode jb_G_heads 11 = .ok (.aload_n 0, 1) := by decide +kernel
theorem jd_G_heads_12 : decode jb_G_heads 12 = .ok (.getfield 30, 3) := by decide +kernel
theorem jd_G_heads_15 : decode jb_G_heads 15 = .ok (.iload_n 1, 1) := by decide +kernel
theorem jd_G_heads_16 : decode jb_G_heads 16 = .ok (.invokevirtual 170, 3) := by decide +kernel
theorem jd_G_heads_19 : decode jb_G_heads 19 = .ok (.goto 4, 3) := by decide +kernel
theorem jd_G_heads_22 : decode jb_G_heads 22 = .ok (.iconst (-1), 1) := by decide +kernel
theorem jd_G_heads_23 : decode jb_G_heads 23 = .ok (.ireturn, 1) := by decide +kernel
def f_G_heads (F : Nat) (x1 : Int32) (I : j_M) : Option (Int32 × j_M) := j_bd (f_Gr_has F x1 I) (fun v1 I2 => (if v1 = 0 then some ((-1), I2) else j_bd (f_Gu_headsAt F x1 I2) (fun v3 I4 => some (v3, I4))))
set_option maxRecDepth 100000 in
set_option maxHeartbeats 4000000 in
theorem k_G_heads {l : Launch} {g : j_G} {b n : Nat} {P : j_R} {F : Nat} (hF : j_Fx 0 260 P) (hn : 260 ≤ n) {x1 : Int32} {I : j_M} {r : Int32 × j_M}  (h : f_G_heads F x1 I = some r) : j_Met l g b n P 1 jy_G_heads jb_G_heads 2 (some .int) [.ref (b + 0), .int x1] I r.2 (some (.int r.1)) := by
  unfold f_G_heads at h
  refine j_enter (plainFor_of_name (by decide)) (Nat.le_of_ble_eq_true rfl) [some (.ref (b + 0)), some (.int x1)] rfl ?_
  intro p e R s m args below meth c X0 hnm hRc hRs
  have X : j_X p R s m args meth c g b 1 jb_G_heads 2 "PleasureGarden" (some .int) := X0
  clear X0
  refine j_aload_n X jd_G_heads_0 rfl rfl ?_
  refine j_getr X jf_G_10 jk_0_0 js_0 (j_lt rfl hn) (jp_0_0 hF) jd_G_heads_1 ?_
  refine j_iload_n X jd_G_heads_4 rfl rfl ?_
  refine j_callVi (As := [.int x1]) (st := []) (c0 := 1) X h jc_Gr js_1 (j_lt rfl hn) ⟨jqc_Gr_has, jqi_Gr_has, jqv_Gr_has, jqn_Gr⟩ jlm_G_103 jh_Gr_has rfl (by decide) (by decide) (Nat.le_of_ble_eq_true rfl) ⟨Nat.zero_le _, Nat.zero_le _⟩ (fun v0 I0 h => k_Gr_has (r := (v0, I0)) hF.gr (j_le hn) h) jd_G_heads_5 rfl (fun v1 I2 h => ?_)
  refine j_if_eq (tgt := 22) X jd_G_heads_8 rfl h (fun h => ?_) (fun h => ?_)
  · refine j_iconst (v := (-1)) X jd_G_heads_22 (by decide) ?_
    exact j_iret X rfl jd_G_heads_23 h
  · refine j_aload_n X jd_G_heads_11 rfl rfl ?_
    refine j_getr X jf_G_30 jk_0_3 js_0 (j_lt rfl hn) (jp_0_3 hF) jd_G_heads_12 ?_
    refine j_iload_n X jd_G_heads_15 rfl rfl ?_
    refine j_callVi (As := [.int x1]) (st := []) (c0 := 41) X h jc_Gu js_41 (j_lt rfl hn) ⟨jqc_Gu_headsAt, jqi_Gu_headsAt, jqv_Gu_headsAt, jqn_Gu⟩ jlm_G_170 jh_Gu_headsAt rfl (by decide) (by decide) (Nat.le_of_ble_eq_true rfl) ⟨Nat.zero_le _, Nat.zero_le _⟩ (fun v0 I0 h => k_Gu_headsAt (r := (v0, I0)) hF hn h) jd_G_heads_16 rfl (fun v3 I4 h => ?_)
    refine j_goto (tgt := 23) X jd_G_heads_19 rfl ?_
    exact j_iret X rfl jd_G_heads_23 h
-- PleasureGarden.lamp(I)I
theorem jd_G_lamp_0 : decode jb_G_lamp 0 = .ok (.iload_n 1, 1) := by decide +kernel
theorem jd_G_lamp_1 : decode jb_G_lamp 1 = .ok (.iconst 1, 1) := by decide +kernel
theorem jd_G_lamp_2 : decode jb_G_lamp 2 = .ok (.sipush 480, 3) := by decide +kernel
theorem jd_G_lamp_5 : decode jb_G_lamp 5 = .ok (.invokestatic 92, 3) := by decide +kernel
theorem jd_G_lamp_8 : decode jb_G_lamp 8 = .ok (.ifCond .ne 5, 3) := by decide +kernel
theorem jd_G_lamp_11 : decode jb_G_lamp 11 = .ok (.iconst (-1), 1) := by decide +kernel
theorem jd_G_lamp_12 : decode jb_G_lamp 12 = .ok (.ireturn, 1) := by decide +kernel
theorem jd_G_lamp_13 : decode jb_G_lamp 13 = .ok (.aload_n 0, 1) := by decide +kernel
theorem jd_G_lamp_14 : decode jb_G_lamp 14 = .ok (.getfield 44, 3) := by decide +kernel
theorem jd_G_lamp_17 : decode jb_G_lamp 17 = .ok (.getfield 192, 3) := by decide +kernel
theorem jd_G_lamp_20 : decode jb_G_lamp 20 = .ok (.bipush 40, 2) := by decide +kernel
theorem jd_G_lamp_22 : decode jb_G_lamp 22 = .ok (.if_icmp .lt 8, 3) := by decide +kernel
theorem jd_G_lamp_25 : decode jb_G_lamp 25 = .ok (.bipush (-3), 2) := by decide +kernel
theorem jd_G_lamp_27 : decode jb_G_lamp 27 = .ok (.goto 11, 3) := by decide +kernel
theorem jd_G_lamp_30 : decode jb_G_lamp 30 = .ok (.aload_n 0, 1) := by decide +kernel
theorem jd_G_lamp_31 : decode jb_G_lamp 31 = .ok (.getfield 44, 3) := by decide +kernel
theorem jd_G_lamp_34 : decode jb_G_lamp 34 = .ok (.iload_n 1, 1) := by decide +kernel
theorem jd_G_lamp_35 : decode jb_G_lamp 35 = .ok (.invokevirtual 193, 3) := by decide +kernel
theorem jd_G_lamp_38 : decode jb_G_lamp 38 = .ok (.ireturn, 1) := by decide +kernel
def f_G_lamp (F : Nat) (x1 : Int32) (I : j_M) : Option (Int32 × j_M) := j_bd (f_G_within F x1 1 480 I) (fun v1 I2 => (if v1 = 0 then some ((-1), I2) else (if (I2 150 0) < 40 then j_bd (f_La_hang F x1 I2) (fun v3 I4 => some (v3, I4)) else some ((-3), I2))))
set_option maxRecDepth 100000 in
set_option maxHeartbeats 4000000 in
theorem k_G_lamp {l : Launch} {g : j_G} {b n : Nat} {P : j_R} {F : Nat} (hF : j_Fx 0 260 P) (hn : 260 ≤ n) {x1 : Int32} {I : j_M} {r : Int32 × j_M}  (h : f_G_lamp F x1 I = some r) : j_Met l g b n P 1 jy_G_lamp jb_G_lamp 2 (some .int) [.ref (b + 0), .int x1] I r.2 (some (.int r.1)) := by
  unfold f_G_lamp at h
  refine j_enter (plainFor_of_name (by decide)) (Nat.le_of_ble_eq_true rfl) [some (.ref (b + 0)), some (.int x1)] rfl ?_
  intro p e R s m args below meth c X0 hnm hRc hRs
  have X : j_X p R s m args meth c g b 1 jb_G_lamp 2 "PleasureGarden" (some .int) := X0
  clear X0
  refine j_iload_n X jd_G_lamp_0 rfl rfl ?_
  refine j_iconst (v := 1) X jd_G_lamp_1 (by decide) ?_
  refine j_sipush (v := 480) X jd_G_lamp_2 (by decide) ?_
  refine j_callSi (As := [.int x1, .int 1, .int 480]) (st := []) X h ⟨jqc_G_within, jqs_G_within, jqn_G⟩ jlm_G_92 jh_G_within.2 rfl (by decide) (by decide) (Nat.le_of_ble_eq_true rfl) ⟨Nat.zero_le _, Nat.zero_le _⟩ (fun v0 I0 h => k_G_within (r := (v0, I0)) hF hn h) jd_G_lamp_5 rfl (fun v1 I2 h => ?_)
  refine j_if_ne (tgt := 13) X jd_G_lamp_8 rfl h (fun h => ?_) (fun h => ?_)
  · refine j_iconst (v := (-1)) X jd_G_lamp_11 (by decide) ?_
    exact j_iret X rfl jd_G_lamp_12 h
  · refine j_aload_n X jd_G_lamp_13 rfl rfl ?_
    refine j_getr X jf_G_44 jk_0_5 js_0 (j_lt rfl hn) (jp_0_5 hF) jd_G_lamp_14 ?_
    refine j_get X jf_G_192 jk_6_0 js_150 (j_lt rfl hn) jd_G_lamp_17 ?_
    refine j_bipush (v := 40) X jd_G_lamp_20 (by decide) ?_
    refine j_icmp_lt (tgt := 30) X jd_G_lamp_22 rfl h (fun h => ?_) (fun h => ?_)
    · refine j_aload_n X jd_G_lamp_30 rfl rfl ?_
      refine j_getr X jf_G_44 jk_0_5 js_0 (j_lt rfl hn) (jp_0_5 hF) jd_G_lamp_31 ?_
      refine j_iload_n X jd_G_lamp_34 rfl rfl ?_
      refine j_callVi (As := [.int x1]) (st := []) (c0 := 150) X h jc_La js_150 (j_lt rfl hn) ⟨jqc_La_hang, jqi_La_hang, jqv_La_hang, jqn_La⟩ jlm_G_193 jh_La_hang rfl (by decide) (by decide) (Nat.le_of_ble_eq_true rfl) ⟨Nat.zero_le _, Nat.zero_le _⟩ (fun v0 I0 h => k_La_hang (r := (v0, I0)) hF hn h) jd_G_lamp_35 rfl (fun v3 I4 h => ?_)
      exact j_iret X rfl jd_G_lamp_38 h
    · refine j_bipush (v := (-3)) X jd_G_lamp_25 (by decide) ?_
      refine j_goto (tgt := 38) X jd_G_lamp_27 rfl ?_
      exact j_iret X rfl jd_G_lamp_38 h
-- PleasureGarden.burns(I)I
theorem jd_G_burns_0 : decode jb_G_burns 0 = .ok (.aload_n 0, 1) := by decide +kernel
theorem jd_G_burns_1 : decode jb_G_burns 1 = .ok (.getfield 44, 3) := by decide +kernel
theorem jd_G_burns_4 : decode jb_G_burns 4 = .ok (.iload_n 1, 1) := by decide +kernel
theorem jd_G_burns_5 : decode jb_G_burns 5 = .ok (.invokevirtual 196, 3) := by decide +kernel
theorem jd_G_burns_8 : decode jb_G_burns 8 = .ok (.ifCond .ne 5, 3) := by decide +kernel
theorem jd_G_burns_11 : decode jb_G_burns 11 = .ok (.iconst (-1), 1) := by decide +kernel
theorem jd_G_burns_12 : decode jb_G_burns 12 = .ok (.ireturn, 1) := by decide +kernel
theorem jd_G_burns_13 : decode jb_G_burns 13 = .ok (.aload_n 0, 1) := by decide +kernel
theorem jd_G_burns_14 : decode jb_G_burns 14 = .ok (.getfield 44, 3) := by decide +kernel
theorem jd_G_burns_17 : decode jb_G_burns 17 = .ok (.iload_n 1, 1) := by decide +kernel
theorem jd_G_burns_18 : decode jb_G_burns 18 = .ok (.invokevirtual 206, 3) := by decide +kernel
theorem jd_G_burns_21 : decode jb_G_burns 21 = .ok (.ifCond .eq 15, 3) := by decide +kernel
theorem jd_G_burns_24 : decode jb_G_burns 24 = .ok (.aload_n 0, 1) := by decide +kernel
theorem jd_G_burns_25 : decode jb_G_burns 25 = .ok (.getfield 44, 3) := by decide +kernel
theorem jd_G_burns_28 : decode jb_G_burns 28 = .ok (.getfield 209, 3) := by decide +kernel
theorem jd_G_burns_31 : decode jb_G_burns 31 = .ok (.iload_n 1, 1) := by decide +kernel
theorem jd_G_burns_32 : decode jb_G_burns 32 = .ok (.iaload, 1) := by decide +kernel
theorem jd_G_burns_33 : decode jb_G_burns 33 = .ok (.goto 5, 3) := by decide +kernel
theorem jd_G_burns_36 : decode jb_G_burns 36 = .ok (.bipush (-2), 2) := by decide +kernel
theorem jd_G_burns_38 : decode jb_G_burns 38 = .ok (.ireturn, 1) := by decide +kernel
def f_G_burns (F : Nat) (x1 : Int32) (I : j_M) : Option (Int32 × j_M) := j_bd (f_La_has F x1 I) (fun v1 I2 => (if v1 = 0 then some ((-1), I2) else j_bd (f_La_isLit F x1 I2) (fun v3 I4 => (if v3 = 0 then some ((-2), I4) else (if j_ok x1 40 = true then some (I4 152 (j_ix x1), I4) else none)))))
set_option maxRecDepth 100000 in
set_option maxHeartbeats 4000000 in
theorem k_G_burns {l : Launch} {g : j_G} {b n : Nat} {P : j_R} {F : Nat} (hF : j_Fx 0 260 P) (hn : 260 ≤ n) {x1 : Int32} {I : j_M} {r : Int32 × j_M}  (h : f_G_burns F x1 I = some r) : j_Met l g b n P 1 jy_G_burns jb_G_burns 2 (some .int) [.ref (b + 0), .int x1] I r.2 (some (.int r.1)) := by
  unfold f_G_burns at h
  refine j_enter (plainFor_of_name (by decide)) (Nat.le_of_ble_eq_true rfl) [some (.ref (b + 0)), some (.int x1)] rfl ?_
  intro p e R s m args below meth c X0 hnm hRc hRs
  have X : j_X p R s m args meth c g b 1 jb_G_burns 2 "PleasureGarden" (some .int) := X0
  clear X0
  refine j_aload_n X jd_G_burns_0 rfl rfl ?_
  refine j_getr X jf_G_44 jk_0_5 js_0 (j_lt rfl hn) (jp_0_5 hF) jd_G_burns_1 ?_
  refine j_iload_n X jd_G_burns_4 rfl rfl ?_
  refine j_callVi (As := [.int x1]) (st := []) (c0 := 150) X h jc_La js_150 (j_lt rfl hn) ⟨jqc_La_has, jqi_La_has, jqv_La_has, jqn_La⟩ jlm_G_196 jh_La_has rfl (by decide) (by decide) (Nat.le_of_ble_eq_true rfl) ⟨Nat.zero_le _, Nat.zero_le _⟩ (fun v0 I0 h => k_La_has (r := (v0, I0)) hF hn h) jd_G_burns_5 rfl (fun v1 I2 h => ?_)
  refine j_if_ne (tgt := 13) X jd_G_burns_8 rfl h (fun h => ?_) (fun h => ?_)
  · refine j_iconst (v := (-1)) X jd_G_burns_11 (by decide) ?_
    exact j_iret X rfl jd_G_burns_12 h
  · refine j_aload_n X jd_G_burns_13 rfl rfl ?_
    refine j_getr X jf_G_44 jk_0_5 js_0 (j_lt rfl hn) (jp_0_5 hF) jd_G_burns_14 ?_
    refine j_iload_n X jd_G_burns_17 rfl rfl ?_
    refine j_callVi (As := [.int x1]) (st := []) (c0 := 150) X h jc_La js_150 (j_lt rfl hn) ⟨jqc_La_isLit, jqi_La_isLit, jqv_La_isLit, jqn_La⟩ jlm_G_206 jh_La_isLit rfl (by decide) (by decide) (Nat.le_of_ble_eq_true rfl) ⟨Nat.zero_le _, Nat.zero_le _⟩ (fun v0 I0 h => k_La_isLit (r := (v0, I0)) hF hn h) jd_G_burns_18 rfl (fun v3 I4 h => ?_)
    refine j_if_eq (tgt := 36) X jd_G_burns_21 rfl h (fun h => ?_) (fun h => ?_)
    · refine j_bipush (v := (-2)) X jd_G_burns_36 (by decide) ?_
      exact j_iret X rfl jd_G_burns_38 h
    · refine j_aload_n X jd_G_burns_24 rfl rfl ?_
      refine j_getr X jf_G_44 jk_0_5 js_0 (j_lt rfl hn) (jp_0_5 hF) jd_G_burns_25 ?_
      refine j_getr X jf_G_209 jk_6_4 js_150 (j_lt rfl hn) (jp_150_4 hF) jd_G_burns_28 ?_
      refine j_iload_n X jd_G_burns_31 rfl rfl ?_
      refine j_iald X js_152 (j_lt rfl hn) jd_G_burns_32 h (fun _ h => ?_)
      refine j_goto (tgt := 38) X jd_G_burns_33 rfl ?_
      exact j_iret X rfl jd_G_burns_38 h
-- PleasureGarden.box(II)I
theorem jd_G_box_0 : decode jb_G_box 0 = .ok (.aload_n 0, 1) := by decide +kernel
theorem jd_G_box_1 : decode jb_G_box 1 = .ok (.getfield 10, 3) := by decide +kernel
theorem jd_G_box_4 : decode jb_G_box 4 = .ok (.iload_n 1, 1) := by decide +kernel
theorem jd_G_box_5 : decode jb_G_box 5 = .ok (.invokevirtual 103, 3) := by decide +kernel
theorem jd_G_box_8 : decode jb_G_box 8 = .ok (.ifCond .eq 13, 3) := by decide +kernel
theorem jd_G_box_11 : decode jb_G_box 11 = .ok (.iload_n 2, 1) := by decide +kernel
theorem jd_G_box_12 : decode jb_G_box 12 = .ok (.iconst 1, 1) := by decide +kernel
theorem jd_G_box_13 : decode jb_G_box 13 = .ok (.bipush 20, 2) := by decide +kernel
theorem jd_G_box_15 : decode jb_G_box 15 = .ok (.invokestatic 92, 3) := by decide +kernel
theorem jd_G_box_18 : decode jb_G_box 18 = .ok (.ifCond .ne 5, 3) := by decide +kernel
theorem jd_G_box_21 : decode jb_G_box 21 = .ok (.iconst (-1), 1) := by decide +kernel
theorem jd_G_box_22 : decode jb_G_box 22 = .ok (.ireturn, 1) := by decide +kernel
theorem jd_G_box_23 : decode jb_G_box 23 = .ok (.aload_n 0, 1) := by decide +kernel
theorem jd_G_box_24 : decode jb_G_box 24 = .ok (.getfield 51, 3) := by decide +kernel
theorem jd_G_box_27 : decode jb_G_box 27 = .ok (.getfield 222, 3) := by decide +kernel
theorem jd_G_box_30 : decode jb_G_box 30 = .ok (.bipush 20, 2) := by decide +kernel
theorem jd_G_box_32 : decode jb_G_box 32 = .ok (.if_icmp .lt 8, 3) := by decide +kernel
theorem jd_G_box_35 : decode jb_G_box 35 = .ok (.bipush (-3), 2) := by decide +kernel
theorem jd_G_box_37 : decode jb_G_box 37 = .ok (.goto 12, 3) := by decide +kernel
theorem jd_G_box_40 : decode jb_G_box 40 = .ok (.aload_n 0, 1) := by decide +kernel
theorem jd_G_box_41 : decode jb_G_box 41 = .ok (.getfield 51, 3) := by decide +kernel
theorem jd_G_box_44 : decode jb_G_box 44 = .ok (.iload_n 1, 1) := by decide +kernel
theorem jd_G_box_45 : decode jb_G_box 45 = .ok (.iload_n 2, 1) := by decide +kernel
theorem jd_G_box_46 : decode jb_G_box 46 = .ok (.invokevirtual 223, 3) := by decide +kernel
theorem jd_G_box_49 : decode jb_G_box 49 = .ok (.ireturn, 1) := by decide +kernel
def f_G_box (F : Nat) (x1 : Int32) (x2 : Int32) (I : j_M) : Option (Int32 × j_M) := j_bd (f_Gr_has F x1 I) (fun v1 I2 => (if v1 = 0 then some ((-1), I2) else j_bd (f_G_within F x2 1 20 I2) (fun v3 I4 => (if v3 = 0 then some ((-1), I4) else (if (I4 194 0) < 20 then j_bd (f_Bo_add F x1 x2 I4) (fun v5 I6 => some (v5, I6)) else some ((-3), I4))))))
set_option maxRecDepth 100000 in
set_option maxHeartbeats 4000000 in
theorem k_G_box {l : Launch} {g : j_G} {b n : Nat} {P : j_R} {F : Nat} (hF : j_Fx 0 260 P) (hn : 260 ≤ n) {x1 : Int32} {x2 : Int32} {I : j_M} {r : Int32 × j_M}  (h : f_G_box F x1 x2 I = some r) : j_Met l g b n P 1 jy_G_box jb_G_box 3 (some .int) [.ref (b + 0), .int x1, .int x2] I r.2 (some (.int r.1)) := by
  unfold f_G_box at h
  refine j_enter (plainFor_of_name (by decide)) (Nat.le_of_ble_eq_true rfl) [some (.ref (b + 0)), some (.int x1), some (.int x2)] rfl ?_
  intro p e R s m args below meth c X0 hnm hRc hRs
  have X : j_X p R s m args meth c g b 1 jb_G_box 3 "PleasureGarden" (some .int) := X0
  clear X0
  refine j_aload_n X jd_G_box_0 rfl rfl ?_
  refine j_getr X jf_G_10 jk_0_0 js_0 (j_lt rfl hn) (jp_0_0 hF) jd_G_box_1 ?_
  refine j_iload_n X jd_G_box_4 rfl rfl ?_
  refine j_callVi (As := [.int x1]) (st := []) (c0 := 1) X h jc_Gr js_1 (j_lt rfl hn) ⟨jqc_Gr_has, jqi_Gr_has, jqv_Gr_has, jqn_Gr⟩ jlm_G_103 jh_Gr_has rfl (by decide) (by decide) (Nat.le_of_ble_eq_true rfl) ⟨Nat.zero_le _, Nat.zero_le _⟩ (fun v0 I0 h => k_Gr_has (r := (v0, I0)) hF.gr (j_le hn) h) jd_G_box_5 rfl (fun v1 I2 h => ?_)
  refine j_if_eq (tgt := 21) X jd_G_box_8 rfl h (fun h => ?_) (fun h => ?_)
  · refine j_iconst (v := (-1)) X jd_G_box_21 (by decide) ?_
    exact j_iret X rfl jd_G_box_22 h
  · refine j_iload_n X jd_G_box_11 rfl rfl ?_
    refine j_iconst (v := 1) X jd_G_box_12 (by decide) ?_
    refine j_bipush (v := 20) X jd_G_box_13 (by decide) ?_
    refine j_callSi (As := [.int x2, .int 1, .int 20]) (st := []) X h ⟨jqc_G_within, jqs_G_within, jqn_G⟩ jlm_G_92 jh_G_within.2 rfl (by decide) (by decide) (Nat.le_of_ble_eq_true rfl) ⟨Nat.zero_le _, Nat.zero_le _⟩ (fun v0 I0 h => k_G_within (r := (v0, I0)) hF hn h) jd_G_box_15 rfl (fun v3 I4 h => ?_)
    refine j_if_ne (tgt := 23) X jd_G_box_18 rfl h (fun h => ?_) (fun h => ?_)
    · refine j_iconst (v := (-1)) X jd_G_box_21 (by decide) ?_
      exact j_iret X rfl jd_G_box_22 h
    · refine j_aload_n X jd_G_box_23 rfl rfl ?_
      refine j_getr X jf_G_51 jk_0_6 js_0 (j_lt rfl hn) (jp_0_6 hF) jd_G_box_24 ?_
      refine j_get X jf_G_222 jk_7_0 js_194 (j_lt rfl hn) jd_G_box_27 ?_
      refine j_bipush (v := 20) X jd_G_box_30 (by decide) ?_
      refine j_icmp_lt (tgt := 40) X jd_G_box_32 rfl h (fun h => ?_) (fun h => ?_)
      · refine j_aload_n X jd_G_box_40 rfl rfl ?_
        refine j_getr X jf_G_51 jk_0_6 js_0 (j_lt rfl hn) (jp_0_6 hF) jd_G_box_41 ?_
        refine j_iload_n X jd_G_box_44 rfl rfl ?_
        refine j_iload_n X jd_G_box_45 rfl rfl ?_
        refine j_callVi (As := [.int x1, .int x2]) (st := []) (c0 := 194) X h jc_Bo js_194 (j_lt rfl hn) ⟨jqc_Bo_add, jqi_Bo_add, jqv_Bo_add, jqn_Bo⟩ jlm_G_223 jh_Bo_add rfl (by decide) (by decide) (Nat.le_of_ble_eq_true rfl) ⟨Nat.zero_le _, Nat.zero_le _⟩ (fun v0 I0 h => k_Bo_add (r := (v0, I0)) hF hn h) jd_G_box_46 rfl (fun v5 I6 h => ?_)
        exact j_iret X rfl jd_G_box_49 h
      · refine j_bipush (v := (-3)) X jd_G_box_35 (by decide) ?_
        refine j_goto (tgt := 49) X jd_G_box_37 rfl ?_
        exact j_iret X rfl jd_G_box_49 h
-- PleasureGarden.let(II)I
theorem jd_G_let_0 : decode jb_G_let 0 = .ok (.aload_n 0, 1) := by decide +kernel
theorem jd_G_let_1 : decode jb_G_let 1 = .ok (.getfield 51, 3) := by decide +kernel
theorem jd_G_let_4 : decode jb_G_let 4 = .ok (.iload_n 1, 1) := by decide +kernel
theorem jd_G_let_5 : decode jb_G_let 5 = .ok (.invokevirtual 224, 3) := by decide +kernel
theorem jd_G_let_8 : decode jb_G_let 8 = .ok (.ifCond .eq 14, 3) := by decide +kernel
theorem jd_G_let_11 : decode jb_G_let 11 = .ok (.aload_n 0, 1) := by decide +kernel
theorem jd_G_let_12 : decode jb_G_let 12 = .ok (.getfield 30, 3) := by decide +kernel
theorem jd_G_let_15 : decode jb_G_let 15 = .ok (.iload_n 2, 1) := by decide +kernel
theorem jd_G_let_16 : decode jb_G_let 16 = .ok (.invokevirtual 147, 3) := by decide +kernel
theorem jd_G_let_19 : decode jb_G_let 19 = .ok (.ifCond .ne 5, 3) := by decide +kernel
theorem jd_G_let_22 : decode jb_G_let 22 = .ok (.iconst (-1), 1) := by decide +kernel
theorem jd_G_let_23 : decode jb_G_let 23 = .ok (.ireturn, 1) := by decide +kernel
theorem jd_G_let_24 : decode jb_G_let 24 = .ok (.aload_n 0, 1) := by decide +kernel
theorem jd_G_let_25 : decode jb_G_let 25 = .ok (.getfield 30, 3) := by decide +kernel
theorem jd_G_let_28 : decode jb_G_let 28 = .ok (.getfield 148, 3) := by decide +kernel
theorem jd_G_let_31 : decode jb_G_let 31 = .ok (.iload_n 2, 1) := by decide +kernel
theorem jd_G_let_32 : decode jb_G_let 32 = .ok (.aaload, 1) := by decide +kernel
theorem jd_G_let_33 : decode jb_G_let 33 = .ok (.astore_n 3, 1) := by decide +kernel
theorem jd_G_let_34 : decode jb_G_let 34 = .ok (.aload_n 3, 1) := by decide +kernel
theorem jd_G_let_35 : decode jb_G_let 35 = .ok (.getfield 152, 3) := by decide +kernel
theorem jd_G_let_38 : decode jb_G_let 38 = .ok (.ifCond .ne 47, 3) := by decide +kernel
theorem jd_G_let_41 : decode jb_G_let 41 = .ok (.aload_n 3, 1) := by decide +kernel
theorem jd_G_let_42 : decode jb_G_let 42 = .ok (.getfield 155, 3) := by decide +kernel
theorem jd_G_let_45 : decode jb_G_let 45 = .ok (.aload_n 0, 1) := by decide +kernel
theorem jd_G_let_46 : decode jb_G_let 46 = .ok (.getfield 51, 3) := by decide +kernel
theorem jd_G_let_49 : decode jb_G_let 49 = .ok (.getfield 225, 3) := by decide +kernel
theorem jd_G_let_52 : decode jb_G_let 52 = .ok (.iload_n 1, 1) := by decide +kernel
theorem jd_G_let_53 : decode jb_G_let 53 = .ok (.iaload, 1) := by decide +kernel
theorem jd_G_let_54 : decode jb_G_let 54 = .ok (.if_icmp .ne 31, 3) := by decide +kernel
theorem jd_G_let_57 : decode jb_G_let 57 = .ok (.aload_n 3, 1) := by decide +kernel
theorem jd_G_let_58 : decode jb_G_let 58 = .ok (.getfield 227, 3) := by decide +kernel
theorem jd_G_let_61 : decode jb_G_let 61 = .ok (.iconst (-1), 1) := by decide +kernel
theorem jd_G_let_62 : decode jb_G_let 62 = .ok (.if_icmp .ne 23, 3) := by decide +kernel
theorem jd_G_let_65 : decode jb_G_let 65 = .ok (.aload_n 3, 1) := by decide +kernel
theorem jd_G_let_66 : decode jb_G_let 66 = .ok (.getfield 230, 3) := by decide +kernel
theorem jd_G_let_69 : decode jb_G_let 69 = .ok (.aload_n 0, 1) := by decide +kernel
theorem jd_G_let_70 : decode jb_G_let 70 = .ok (.getfield 51, 3) := by decide +kernel
theorem jd_G_let_73 : decode jb_G_let 73 = .ok (.getfield 233, 3) := by decide +kernel
theorem jd_G_let_76 : decode jb_G_let 76 = .ok (.iload_n 1, 1) := by decide +kernel
theorem jd_G_let_77 : decode jb_G_let 77 = .ok (.iaload, 1) := by decide +kernel
theorem jd_G_let_78 : decode jb_G_let 78 = .ok (.if_icmp .gt 7, 3) := by decide +kernel
theorem jd_G_let_81 : decode jb_G_let 81 = .ok (.iconst 1, 1) := by decide +kernel
theorem jd_G_let_82 : decode jb_G_let 82 = .ok (.goto 4, 3) := by decide +kernel
theorem jd_G_let_85 : decode jb_G_let 85 = .ok (.iconst 0, 1) := by decide +kernel
theorem jd_G_let_86 : decode jb_G_let 86 = .ok (.istore 4, 2) := by decide +kernel
theorem jd_G_let_88 : decode jb_G_let 88 = .ok (.aload_n 0, 1) := by decide +kernel
theorem jd_G_let_89 : decode jb_G_let 89 = .ok (.getfield 51, 3) := by decide +kernel
theorem jd_G_let_92 : decode jb_G_let 92 = .ok (.getfield 236, 3) := by decide +kernel
theorem jd_G_let_95 : decode jb_G_let 95 = .ok (.iload_n 1, 1) := by decide +kernel
theorem jd_G_let_96 : decode jb_G_let 96 = .ok (.iaload, 1) := by decide +kernel
theorem jd_G_let_97 : decode jb_G_let 97 = .ok (.iconst (-1), 1) := by decide +kernel
theorem jd_G_let_98 : decode jb_G_let 98 = .ok (.if_icmp .ne 8, 3) := by decide +kernel
theorem jd_G_let_101 : decode jb_G_let 101 = .ok (.iload 4, 2) := by decide +kernel
theorem jd_G_let_103 : decode jb_G_let 103 = .ok (.ifCond .ne 6, 3) := by decide +kernel
theorem jd_G_let_106 : decode jb_G_let 106 = .ok (.bipush (-2), 2) := by decide +kernel
theorem jd_G_let_108 : decode jb_G_let 108 = .ok (.ireturn, 1) := by decide +kernel
theorem jd_G_let_109 : decode jb_G_let 109 = .ok (.aload_n 0, 1) := by decide +kernel
theorem jd_G_let_110 : decode jb_G_let 110 = .ok (.getfield 51, 3) := by decide +kernel
theorem jd_G_let_113 : decode jb_G_let 113 = .ok (.getfield 236, 3) := by decide +kernel
theorem jd_G_let_116 : decode jb_G_let 116 = .ok (.iload_n 1, 1) := by decide +kernel
theorem jd_G_let_117 : decode jb_G_let 117 = .ok (.iload_n 2, 1) := by decide +kernel
theorem jd_G_let_118 : decode jb_G_let 118 = .ok (.iastore, 1) := by decide +kernel
theorem jd_G_let_119 : decode jb_G_let 119 = .ok (.aload_n 3, 1) := by decide +kernel
theorem jd_G_let_120 : decode jb_G_let 120 = .ok (.iload_n 1, 1) := by decide +kernel
theorem jd_G_let_121 : decode jb_G_let 121 = .ok (.putfield 227, 3) := by decide +kernel
theorem jd_G_let_124 : decode jb_G_let 124 = .ok (.iconst 1, 1) := by decide +kernel
theorem jd_G_let_125 : decode jb_G_let 125 = .ok (.ireturn, 1) := by decide +kernel
def f_G_let_86 (F : Nat)  (x1 : Int32) (x2 : Int32) (x3 : Nat) (s0 : Int32) (I : j_M) : Option (Int32 × j_M) := (if j_ok x1 20 = true then (if (I 197 (j_ix x1)) = (-1) then (if s0 = 0 then some ((-2), I) else (if j_ok x1 20 = true then j_let (j_wr I 197 (j_ix x1) x2) (fun I1 => j_let (j_wr I1 (43 + x3) 6 x1) (fun I2 => some (1, I2))) else none)) else some ((-2), I)) else none)
def f_G_let_85 (F : Nat)  (x1 : Int32) (x2 : Int32) (x3 : Nat) (I : j_M) : Option (Int32 × j_M) := f_G_let_86 F x1 x2 x3 0 I
def f_G_let (F : Nat) (x1 : Int32) (x2 : Int32) (I : j_M) : Option (Int32 × j_M) := j_bd (f_Bo_has F x1 I) (fun v3 I4 => (if v3 = 0 then some ((-1), I4) else j_bd (f_Gu_has F x2 I4) (fun v5 I6 => (if v5 = 0 then some ((-1), I6) else (if j_ok x2 100 = true then (if (I6 (43 + (j_ix x2)) 3) = 0 then (if j_ok x1 20 = true then (if (I6 (43 + (j_ix x2)) 4) = (I6 195 (j_ix x1)) then (if (I6 (43 + (j_ix x2)) 6) = (-1) then (if j_ok x1 20 = true then (if (I6 196 (j_ix x1)) < (I6 (43 + (j_ix x2)) 1) then f_G_let_85 F x1 x2 (j_ix x2) I6 else f_G_let_86 F x1 x2 (j_ix x2) 1 I6) else none) else f_G_let_85 F x1 x2 (j_ix x2) I6) else f_G_let_85 F x1 x2 (j_ix x2) I6) else none) else f_G_let_85 F x1 x2 (j_ix x2) I6) else none)))))
set_option maxRecDepth 100000 in
set_option maxHeartbeats 4000000 in
theorem k_G_let_86 {p : Program} {l : Launch} {e : Env} {R : Room} {s : State} {m : MethodId} {args : Array Value} {below : List Frame} {meth : Method} {c : Code} {g : j_G} {b n : Nat} {P : j_R} {F : Nat} (hF : j_Fx 0 260 P) (hn : 260 ≤ n) (X : j_X p R s m args meth c g b 1 jb_G_let 5 "PleasureGarden" (some .int))  {x1 : Int32} {x2 : Int32} {x3 : Nat} {s0 : Int32} {I : j_M} {r : Int32 × j_M} (hx3 : x3 < 100) (h : f_G_let_86 F x1 x2 x3 s0 I = some r) : j_W p l e R s m args below meth c 5 g b n 0 0 (j_Qi g b n P below args s r) I P 86 [some (.ref (b + 0)), some (.int x1), some (.int x2), some (.ref (b + (43 + x3))), none] [.int s0] := by
  unfold f_G_let_86 at h
  refine j_istore (lv' := [some (.ref (b + 0)), some (.int x1), some (.int x2), some (.ref (b + (43 + x3))), some (.int s0)]) X jd_G_let_86 (by decide) rfl ?_
  refine j_aload_n X jd_G_let_88 rfl rfl ?_
  refine j_getr X jf_G_51 jk_0_6 js_0 (j_lt rfl hn) (jp_0_6 hF) jd_G_let_89 ?_
  refine j_getr X jf_G_236 jk_7_3 js_194 (j_lt rfl hn) (jp_194_3 hF) jd_G_let_92 ?_
  refine j_iload_n X jd_G_let_95 rfl rfl ?_
  refine j_iald X js_197 (j_lt rfl hn) jd_G_let_96 h (fun _ h => ?_)
  refine j_iconst (v := (-1)) X jd_G_let_97 (by decide) ?_
  refine j_icmp_ne (tgt := 106) X jd_G_let_98 rfl h (fun h => ?_) (fun h => ?_)
  · refine j_iload X jd_G_let_101 rfl ?_
    refine j_if_ne (tgt := 109) X jd_G_let_103 rfl h (fun h => ?_) (fun h => ?_)
    · refine j_bipush (v := (-2)) X jd_G_let_106 (by decide) ?_
      exact j_iret X rfl jd_G_let_108 h
    · refine j_aload_n X jd_G_let_109 rfl rfl ?_
      refine j_getr X jf_G_51 jk_0_6 js_0 (j_lt rfl hn) (jp_0_6 hF) jd_G_let_110 ?_
      refine j_getr X jf_G_236 jk_7_3 js_194 (j_lt rfl hn) (jp_194_3 hF) jd_G_let_113 ?_
      refine j_iload_n X jd_G_let_116 rfl rfl ?_
      refine j_iload_n X jd_G_let_117 rfl rfl ?_
      refine j_iast X js_197 (j_lt rfl hn) jd_G_let_118 h (fun h => ?_)
      refine j_mem h (fun I1 h => ?_)
      refine j_aload_n X jd_G_let_119 rfl rfl ?_
      refine j_iload_n X jd_G_let_120 rfl rfl ?_
      refine j_puti X jt_Pa jto_Pa jn_Pa jf_G_227 jk_4_6 (jsp_43 hx3) (j_ltq hx3 rfl hn) (Or.inl rfl) rfl jd_G_let_121 ?_
      refine j_mem h (fun I2 h => ?_)
      refine j_iconst (v := 1) X jd_G_let_124 (by decide) ?_
      exact j_iret X rfl jd_G_let_125 h
  · refine j_bipush (v := (-2)) X jd_G_let_106 (by decide) ?_
    exact j_iret X rfl jd_G_let_108 h
set_option maxRecDepth 100000 in
set_option maxHeartbeats 4000000 in
theorem k_G_let_85 {p : Program} {l : Launch} {e : Env} {R : Room} {s : State} {m : MethodId} {args : Array Value} {below : List Frame} {meth : Method} {c : Code} {g : j_G} {b n : Nat} {P : j_R} {F : Nat} (hF : j_Fx 0 260 P) (hn : 260 ≤ n) (X : j_X p R s m args meth c g b 1 jb_G_let 5 "PleasureGarden" (some .int))  {x1 : Int32} {x2 : Int32} {x3 : Nat} {I : j_M} {r : Int32 × j_M} (hx3 : x3 < 100) (h : f_G_let_85 F x1 x2 x3 I = some r) : j_W p l e R s m args below meth c 5 g b n 0 0 (j_Qi g b n P below args s r) I P 85 [some (.ref (b + 0)), some (.int x1), some (.int x2), some (.ref (b + (43 + x3))), none] [] := by
  unfold f_G_let_85 at h
  refine j_iconst (v := 0) X jd_G_let_85 (by decide) ?_
  exact k_G_let_86 hF hn X hx3 h
set_option maxRecDepth 100000 in
set_option maxHeartbeats 4000000 in
theorem k_G_let {l : Launch} {g : j_G} {b n : Nat} {P : j_R} {F : Nat} (hF : j_Fx 0 260 P) (hn : 260 ≤ n) {x1 : Int32} {x2 : Int32} {I : j_M} {r : Int32 × j_M}  (h : f_G_let F x1 x2 I = some r) : j_Met l g b n P 1 jy_G_let jb_G_let 5 (some .int) [.ref (b + 0), .int x1, .int x2] I r.2 (some (.int r.1)) := by
  unfold f_G_let at h
  refine j_enter (plainFor_of_name (by decide)) (Nat.le_of_ble_eq_true rfl) [some (.ref (b + 0)), some (.int x1), some (.int x2), none, none] rfl ?_
  intro p e R s m args below meth c X0 hnm hRc hRs
  have X : j_X p R s m args meth c g b 1 jb_G_let 5 "PleasureGarden" (some .int) := X0
  clear X0
  refine j_aload_n X jd_G_let_0 rfl rfl ?_
  refine j_getr X jf_G_51 jk_0_6 js_0 (j_lt rfl hn) (jp_0_6 hF) jd_G_let_1 ?_
  refine j_iload_n X jd_G_let_4 rfl rfl ?_
  refine j_callVi (As := [.int x1]) (st := []) (c0 := 194) X h jc_Bo js_194 (j_lt rfl hn) ⟨jqc_Bo_has, jqi_Bo_has, jqv_Bo_has, jqn_Bo⟩ jlm_G_224 jh_Bo_has rfl (by decide) (by decide) (Nat.le_of_ble_eq_true rfl) ⟨Nat.zero_le _, Nat.zero_le _⟩ (fun v0 I0 h => k_Bo_has (r := (v0, I0)) hF hn h) jd_G_let_5 rfl (fun v3 I4 h => ?_)
  refine j_if_eq (tgt := 22) X jd_G_let_8 rfl h (fun h => ?_) (fun h => ?_)
  · refine j_iconst (v := (-1)) X jd_G_let_22 (by decide) ?_
    exact j_iret X rfl jd_G_let_23 h
  · refine j_aload_n X jd_G_let_11 rfl rfl ?_
    refine j_getr X jf_G_30 jk_0_3 js_0 (j_lt rfl hn) (jp_0_3 hF) jd_G_let_12 ?_
    refine j_iload_n X jd_G_let_15 rfl rfl ?_
    refine j_callVi (As := [.int x2]) (st := []) (c0 := 41) X h jc_Gu js_41 (j_lt rfl hn) ⟨jqc_Gu_has, jqi_Gu_has, jqv_Gu_has, jqn_Gu⟩ jlm_G_147 jh_Gu_has rfl (by decide) (by decide) (Nat.le_of_ble_eq_true rfl) ⟨Nat.zero_le _, Nat.zero_le _⟩ (fun v0 I0 h => k_Gu_has (r := (v0, I0)) hF hn h) jd_G_let_16 rfl (fun v5 I6 h => ?_)
    refine j_if_ne (tgt := 24) X jd_G_let_19 rfl h (fun h => ?_) (fun h => ?_)
    · refine j_iconst (v := (-1)) X jd_G_let_22 (by decide) ?_
      exact j_iret X rfl jd_G_let_23 h
    · refine j_aload_n X jd_G_let_24 rfl rfl ?_
      refine j_getr X jf_G_30 jk_0_3 js_0 (j_lt rfl hn) (jp_0_3 hF) jd_G_let_25 ?_
      refine j_getr X jf_G_148 jk_3_1 js_41 (j_lt rfl hn) (jp_41_1 hF) jd_G_let_28 ?_
      refine j_iload_n X jd_G_let_31 rfl rfl ?_
      refine j_aald X rfl rfl js_42 (j_lt rfl hn) jd_G_let_32 (fun q => ja_42 hF _ (j_ok_lt q)) h (fun hb7 h => ?_)
      refine j_astore_n (lv' := [some (.ref (b + 0)), some (.int x1), some (.int x2), some (.ref (b + (43 + (j_ix x2)))), none]) X jd_G_let_33 rfl (by decide) rfl ?_
      refine j_aload_n X jd_G_let_34 rfl rfl ?_
      refine j_get X jf_G_152 jk_4_3 (jsp_43 (j_ok_lt hb7)) (j_ltq (j_ok_lt hb7) rfl hn) jd_G_let_35 ?_
      refine j_if_ne (tgt := 85) X jd_G_let_38 rfl h (fun h => ?_) (fun h => ?_)
      · refine j_aload_n X jd_G_let_41 rfl rfl ?_
        refine j_get X jf_G_155 jk_4_4 (jsp_43 (j_ok_lt hb7)) (j_ltq (j_ok_lt hb7) rfl hn) jd_G_let_42 ?_
        refine j_aload_n X jd_G_let_45 rfl rfl ?_
        refine j_getr X jf_G_51 jk_0_6 js_0 (j_lt rfl hn) (jp_0_6 hF) jd_G_let_46 ?_
        refine j_getr X jf_G_225 jk_7_1 js_194 (j_lt rfl hn) (jp_194_1 hF) jd_G_let_49 ?_
        refine j_iload_n X jd_G_let_52 rfl rfl ?_
        refine j_iald X js_195 (j_lt rfl hn) jd_G_let_53 h (fun _ h => ?_)
        refine j_icmp_ne (tgt := 85) X jd_G_let_54 rfl h (fun h => ?_) (fun h => ?_)
        · refine j_aload_n X jd_G_let_57 rfl rfl ?_
          refine j_get X jf_G_227 jk_4_6 (jsp_43 (j_ok_lt hb7)) (j_ltq (j_ok_lt hb7) rfl hn) jd_G_let_58 ?_
          refine j_iconst (v := (-1)) X jd_G_let_61 (by decide) ?_
          refine j_icmp_ne (tgt := 85) X jd_G_let_62 rfl h (fun h => ?_) (fun h => ?_)
          · refine j_aload_n X jd_G_let_65 rfl rfl ?_
            refine j_get X jf_G_230 jk_4_1 (jsp_43 (j_ok_lt hb7)) (j_ltq (j_ok_lt hb7) rfl hn) jd_G_let_66 ?_
            refine j_aload_n X jd_G_let_69 rfl rfl ?_
            refine j_getr X jf_G_51 jk_0_6 js_0 (j_lt rfl hn) (jp_0_6 hF) jd_G_let_70 ?_
            refine j_getr X jf_G_233 jk_7_2 js_194 (j_lt rfl hn) (jp_194_2 hF) jd_G_let_73 ?_
            refine j_iload_n X jd_G_let_76 rfl rfl ?_
            refine j_iald X js_196 (j_lt rfl hn) jd_G_let_77 h (fun _ h => ?_)
            refine j_icmp_gt (tgt := 85) X jd_G_let_78 rfl h (fun h => ?_) (fun h => ?_)
            · exact k_G_let_85 hF hn X (j_ok_lt hb7) h
            · refine j_iconst (v := 1) X jd_G_let_81 (by decide) ?_
              refine j_goto (tgt := 86) X jd_G_let_82 rfl ?_
              exact k_G_let_86 hF hn X (j_ok_lt hb7) h
          · exact k_G_let_85 hF hn X (j_ok_lt hb7) h
        · exact k_G_let_85 hF hn X (j_ok_lt hb7) h
      · exact k_G_let_85 hF hn X (j_ok_lt hb7) h
-- PleasureGarden.in(I)I
theorem jd_G_in_0 : decode jb_G_in 0 = .ok (.aload_n 0, 1) := by decide +kernel
theorem jd_G_in_1 : decode jb_G_in 1 = .ok (.getfield 51, 3) := by decide +kernel
theorem jd_G_in_4 : decode jb_G_in 4 = .ok (.iload_n 1, 1) := by decide +kernel
theorem jd_G_in_5 : decode jb_G_in 5 = .ok (.invokevirtual 224, 3) := by decide +kernel
theorem jd_G_in_8 : decode jb_G_in 8 = .ok (.ifCond .ne 5, 3) := by decide +kernel
theorem jd_G_in_11 : decode jb_G_in 11 = .ok (.iconst (-1), 1) := by decide +kernel
theorem jd_G_in_12 : decode jb_G_in 12 = .ok (.ireturn, 1) := by decide +kernel
theorem jd_G_in_13 : decode jb_G_in 13 = .ok (.aload_n 0, 1) := by decide +kernel
theorem jd_G_in_14 : decode jb_G_in 14 = .ok (.getfield 51, 3) := by decide +kernel
theorem jd_G_in_17 : decode jb_G_in 17 = .ok (.getfield 236, 3) := by decide +kernel
theorem jd_G_in_20 : decode jb_G_in 20 = .ok (.iload_n 1, 1) := by decide +kernel
theorem jd_G_in_21 : decode jb_G_in 21 = .ok (.iaload, 1) := by decide +kernel
theorem jd_G_in_22 : decode jb_G_in 22 = .ok (.iconst (-1), 1) := by decide +kernel
theorem jd_G_in_23 : decode jb_G_in 23 = .ok (.if_icmp .ne 8, 3) := by decide +kernel
theorem jd_G_in_26 : decode jb_G_in 26 = .ok (.bipush (-2), 2) := by decide +kernel
theorem jd_G_in_28 : decode jb_G_in 28 = .ok (.goto 12, 3) := by decide +kernel
theorem jd_G_in_31 : decode jb_G_in 31 = .ok (.aload_n 0, 1) := by decide +kernel
theorem jd_G_in_32 : decode jb_G_in 32 = .ok (.getfield 51, 3) := by decide +kernel
theorem jd_G_in_35 : decode jb_G_in 35 = .ok (.getfield 236, 3) := by decide +kernel
theorem jd_G_in_38 : decode jb_G_in 38 = .ok (.iload_n 1, 1) := by decide +kernel
theorem jd_G_in_39 : decode jb_G_in 39 = .ok (.iaload, 1) := by decide +kernel
theorem jd_G_in_40 : decode jb_G_in 40 = .ok (.ireturn, 1) := by decide +kernel
def f_G_in (F : Nat) (x1 : Int32) (I : j_M) : Option (Int32 × j_M) := j_bd (f_Bo_has F x1 I) (fun v1 I2 => (if v1 = 0 then some ((-1), I2) else (if j_ok x1 20 = true then (if (I2 197 (j_ix x1)) = (-1) then some ((-2), I2) else (if j_ok x1 20 = true then some (I2 197 (j_ix x1), I2) else none)) else none)))
set_option maxRecDepth 100000 in
set_option maxHeartbeats 4000000 in
theorem k_G_in {l : Launch} {g : j_G} {b n : Nat} {P : j_R} {F : Nat} (hF : j_Fx 0 260 P) (hn : 260 ≤ n) {x1 : Int32} {I : j_M} {r : Int32 × j_M}  (h : f_G_in F x1 I = some r) : j_Met l g b n P 1 jy_G_in jb_G_in 2 (some .int) [.ref (b + 0), .int x1] I r.2 (some (.int r.1)) := by
  unfold f_G_in at h
  refine j_enter (plainFor_of_name (by decide)) (Nat.le_of_ble_eq_true rfl) [some (.ref (b + 0)), some (.int x1)] rfl ?_
  intro p e R s m args below meth c X0 hnm hRc hRs
  have X : j_X p R s m args meth c g b 1 jb_G_in 2 "PleasureGarden" (some .int) := X0
  clear X0
  refine j_aload_n X jd_G_in_0 rfl rfl ?_
  refine j_getr X jf_G_51 jk_0_6 js_0 (j_lt rfl hn) (jp_0_6 hF) jd_G_in_1 ?_
  refine j_iload_n X jd_G_in_4 rfl rfl ?_
  refine j_callVi (As := [.int x1]) (st := []) (c0 := 194) X h jc_Bo js_194 (j_lt rfl hn) ⟨jqc_Bo_has, jqi_Bo_has, jqv_Bo_has, jqn_Bo⟩ jlm_G_224 jh_Bo_has rfl (by decide) (by decide) (Nat.le_of_ble_eq_true rfl) ⟨Nat.zero_le _, Nat.zero_le _⟩ (fun v0 I0 h => k_Bo_has (r := (v0, I0)) hF hn h) jd_G_in_5 rfl (fun v1 I2 h => ?_)
  refine j_if_ne (tgt := 13) X jd_G_in_8 rfl h (fun h => ?_) (fun h => ?_)
  · refine j_iconst (v := (-1)) X jd_G_in_11 (by decide) ?_
    exact j_iret X rfl jd_G_in_12 h
  · refine j_aload_n X jd_G_in_13 rfl rfl ?_
    refine j_getr X jf_G_51 jk_0_6 js_0 (j_lt rfl hn) (jp_0_6 hF) jd_G_in_14 ?_
    refine j_getr X jf_G_236 jk_7_3 js_194 (j_lt rfl hn) (jp_194_3 hF) jd_G_in_17 ?_
    refine j_iload_n X jd_G_in_20 rfl rfl ?_
    refine j_iald X js_197 (j_lt rfl hn) jd_G_in_21 h (fun _ h => ?_)
    refine j_iconst (v := (-1)) X jd_G_in_22 (by decide) ?_
    refine j_icmp_ne (tgt := 31) X jd_G_in_23 rfl h (fun h => ?_) (fun h => ?_)
    · refine j_bipush (v := (-2)) X jd_G_in_26 (by decide) ?_
      refine j_goto (tgt := 40) X jd_G_in_28 rfl ?_
      exact j_iret X rfl jd_G_in_40 h
    · refine j_aload_n X jd_G_in_31 rfl rfl ?_
      refine j_getr X jf_G_51 jk_0_6 js_0 (j_lt rfl hn) (jp_0_6 hF) jd_G_in_32 ?_
      refine j_getr X jf_G_236 jk_7_3 js_194 (j_lt rfl hn) (jp_194_3 hF) jd_G_in_35 ?_
      refine j_iload_n X jd_G_in_38 rfl rfl ?_
      refine j_iald X js_197 (j_lt rfl hn) jd_G_in_39 h (fun _ h => ?_)
      exact j_iret X rfl jd_G_in_40 h
-- PleasureGarden.ham(I)I
theorem jd_G_ham_0 : decode jb_G_ham 0 = .ok (.iload_n 1, 1) := by decide +kernel
theorem jd_G_ham_1 : decode jb_G_ham 1 = .ok (.iconst 1, 1) := by decide +kernel
theorem jd_G_ham_2 : decode jb_G_ham 2 = .ok (.sipush 9999, 3) := by decide +kernel
theorem jd_G_ham_5 : decode jb_G_ham 5 = .ok (.invokestatic 92, 3) := by decide +kernel
theorem jd_G_ham_8 : decode jb_G_ham 8 = .ok (.ifCond .ne 5, 3) := by decide +kernel
theorem jd_G_ham_11 : decode jb_G_ham 11 = .ok (.iconst (-1), 1) := by decide +kernel
theorem jd_G_ham_12 : decode jb_G_ham 12 = .ok (.ireturn, 1) := by decide +kernel
theorem jd_G_ham_13 : decode jb_G_ham 13 = .ok (.aload_n 0, 1) := by decide +kernel
theorem jd_G_ham_14 : decode jb_G_ham 14 = .ok (.getfield 58, 3) := by decide +kernel
theorem jd_G_ham_17 : decode jb_G_ham 17 = .ok (.getfield 243, 3) := by decide +kernel
theorem jd_G_ham_20 : decode jb_G_ham 20 = .ok (.iload_n 1, 1) := by decide +kernel
theorem jd_G_ham_21 : decode jb_G_ham 21 = .ok (.iadd, 1) := by decide +kernel
theorem jd_G_ham_22 : decode jb_G_ham 22 = .ok (.ldc 246, 2) := by decide +kernel
theorem jd_G_ham_24 : decode jb_G_ham 24 = .ok (.if_icmp .le 6, 3) := by decide +kernel
theorem jd_G_ham_27 : decode jb_G_ham 27 = .ok (.bipush (-3), 2) := by decide +kernel
theorem jd_G_ham_29 : decode jb_G_ham 29 = .ok (.ireturn, 1) := by decide +kernel
theorem jd_G_ham_30 : decode jb_G_ham 30 = .ok (.aload_n 0, 1) := by decide +kernel
theorem jd_G_ham_31 : decode jb_G_ham 31 = .ok (.getfield 58, 3) := by decide +kernel
theorem jd_G_ham_34 : decode jb_G_ham 34 = .ok (.dup, 1) := by decide +kernel
theorem jd_G_ham_35 : decode jb_G_ham 35 = .ok (.getfield 243, 3) := by decide +kernel
theorem jd_G_ham_38 : decode jb_G_ham 38 = .ok (.iload_n 1, 1) := by decide +kernel
theorem jd_G_ham_39 : decode jb_G_ham 39 = .ok (.iadd, 1) := by decide +kernel
theorem jd_G_ham_40 : decode jb_G_ham 40 = .ok (.putfield 243, 3) := by decide +kernel
theorem jd_G_ham_43 : decode jb_G_ham 43 = .ok (.aload_n 0, 1) := by decide +kernel
theorem jd_G_ham_44 : decode jb_G_ham 44 = .ok (.getfield 58, 3) := by decide +kernel
theorem jd_G_ham_47 : decode jb_G_ham 47 = .ok (.getfield 243, 3) := by decide +kernel
theorem jd_G_ham_50 : decode jb_G_ham 50 = .ok (.ireturn, 1) := by decide +kernel
def f_G_ham (F : Nat) (x1 : Int32) (I : j_M) : Option (Int32 × j_M) := j_bd (f_G_within F x1 1 9999 I) (fun v1 I2 => (if v1 = 0 then some ((-1), I2) else (if ((I2 198 0) + x1) ≤ 99999 then j_let (j_wr I2 198 0 ((I2 198 0) + x1)) (fun I3 => some (I3 198 0, I3)) else some ((-3), I2))))
set_option maxRecDepth 100000 in
set_option maxHeartbeats 4000000 in
theorem k_G_ham {l : Launch} {g : j_G} {b n : Nat} {P : j_R} {F : Nat} (hF : j_Fx 0 260 P) (hn : 260 ≤ n) {x1 : Int32} {I : j_M} {r : Int32 × j_M}  (h : f_G_ham F x1 I = some r) : j_Met l g b n P 1 jy_G_ham jb_G_ham 2 (some .int) [.ref (b + 0), .int x1] I r.2 (some (.int r.1)) := by
  unfold f_G_ham at h
  refine j_enter (plainFor_of_name (by decide)) (Nat.le_of_ble_eq_true rfl) [some (.ref (b + 0)), some (.int x1)] rfl ?_
  intro p e R s m args below meth c X0 hnm hRc hRs
  have X : j_X p R s m args meth c g b 1 jb_G_ham 2 "PleasureGarden" (some .int) := X0
  clear X0
  refine j_iload_n X jd_G_ham_0 rfl rfl ?_
  refine j_iconst (v := 1) X jd_G_ham_1 (by decide) ?_
  refine j_sipush (v := 9999) X jd_G_ham_2 (by decide) ?_
  refine j_callSi (As := [.int x1, .int 1, .int 9999]) (st := []) X h ⟨jqc_G_within, jqs_G_within, jqn_G⟩ jlm_G_92 jh_G_within.2 rfl (by decide) (by decide) (Nat.le_of_ble_eq_true rfl) ⟨Nat.zero_le _, Nat.zero_le _⟩ (fun v0 I0 h => k_G_within (r := (v0, I0)) hF hn h) jd_G_ham_5 rfl (fun v1 I2 h => ?_)
  refine j_if_ne (tgt := 13) X jd_G_ham_8 rfl h (fun h => ?_) (fun h => ?_)
  · refine j_iconst (v := (-1)) X jd_G_ham_11 (by decide) ?_
    exact j_iret X rfl jd_G_ham_12 h
  · refine j_aload_n X jd_G_ham_13 rfl rfl ?_
    refine j_getr X jf_G_58 jk_0_7 js_0 (j_lt rfl hn) (jp_0_7 hF) jd_G_ham_14 ?_
    refine j_get X jf_G_243 jk_8_0 js_198 (j_lt rfl hn) jd_G_ham_17 ?_
    refine j_iload_n X jd_G_ham_20 rfl rfl ?_
    refine j_iadd X jd_G_ham_21 ?_
    refine j_ldc (v := 99999) X jlc_G_246 jd_G_ham_22 ?_
    refine j_icmp_le (tgt := 30) X jd_G_ham_24 rfl h (fun h => ?_) (fun h => ?_)
    · refine j_aload_n X jd_G_ham_30 rfl rfl ?_
      refine j_getr X jf_G_58 jk_0_7 js_0 (j_lt rfl hn) (jp_0_7 hF) jd_G_ham_31 ?_
      refine j_dup X jd_G_ham_34 rfl ?_
      refine j_get X jf_G_243 jk_8_0 js_198 (j_lt rfl hn) jd_G_ham_35 ?_
      refine j_iload_n X jd_G_ham_38 rfl rfl ?_
      refine j_iadd X jd_G_ham_39 ?_
      refine j_puti X jt_Ki jto_Ki jn_Ki jf_G_243 jk_8_0 js_198 (j_lt rfl hn) (Or.inl rfl) rfl jd_G_ham_40 ?_
      refine j_mem h (fun I3 h => ?_)
      refine j_aload_n X jd_G_ham_43 rfl rfl ?_
      refine j_getr X jf_G_58 jk_0_7 js_0 (j_lt rfl hn) (jp_0_7 hF) jd_G_ham_44 ?_
      refine j_get X jf_G_243 jk_8_0 js_198 (j_lt rfl hn) jd_G_ham_47 ?_
      exact j_iret X rfl jd_G_ham_50 h
    · refine j_bipush (v := (-3)) X jd_G_ham_27 (by decide) ?_
      exact j_iret X rfl jd_G_ham_29 h
-- PleasureGarden.rule(II)I
theorem jd_G_rule_0 : decode jb_G_rule 0 = .ok (.iload_n 1, 1) := by decide +kernel
theorem jd_G_rule_1 : decode jb_G_rule 1 = .ok (.ifCond .ne 31, 3) := by decide +kernel
theorem jd_G_rule_4 : decode jb_G_rule 4 = .ok (.iload_n 2, 1) := by decide +kernel
theorem jd_G_rule_5 : decode jb_G_rule 5 = .ok (.iconst 5, 1) := by decide +kernel
theorem jd_G_rule_6 : decode jb_G_rule 6 = .ok (.bipush 99, 2) := by decide +kernel
theorem jd_G_rule_8 : decode jb_G_rule 8 = .ok (.invokestatic 92, 3) := by decide +kernel
theorem jd_G_rule_11 : decode jb_G_rule 11 = .ok (.ifCond .eq 21, 3) := by decide +kernel
theorem jd_G_rule_14 : decode jb_G_rule 14 = .ok (.aload_n 0, 1) := by decide +kernel
theorem jd_G_rule_15 : decode jb_G_rule 15 = .ok (.getfield 58, 3) := by decide +kernel
theorem jd_G_rule_18 : decode jb_G_rule 18 = .ok (.getfield 247, 3) := by decide +kernel
theorem jd_G_rule_21 : decode jb_G_rule 21 = .ok (.istore_n 3, 1) := by decide +kernel
theorem jd_G_rule_22 : decode jb_G_rule 22 = .ok (.aload_n 0, 1) := by decide +kernel
theorem jd_G_rule_23 : decode jb_G_rule 23 = .ok (.getfield 58, 3) := by decide +kernel
theorem jd_G_rule_26 : decode jb_G_rule 26 = .ok (.iload_n 2, 1) := by decide +kernel
theorem jd_G_rule_27 : decode jb_G_rule 27 = .ok (.putfield 247, 3) := by decide +kernel
theorem jd_G_rule_30 : decode jb_G_rule 30 = .ok (.iload_n 3, 1) := by decide +kernel
theorem jd_G_rule_31 : decode jb_G_rule 31 = .ok (.ireturn, 1) := by decide +kernel
theorem jd_G_rule_32 : decode jb_G_rule 32 = .ok (.iload_n 1, 1) := by decide +kernel
theorem jd_G_rule_33 : decode jb_G_rule 33 = .ok (.iconst 1, 1) := by decide +kernel
theorem jd_G_rule_34 : decode jb_G_rule 34 = .ok (.if_icmp .ne 31, 3) := by decide +kernel
theorem jd_G_rule_37 : decode jb_G_rule 37 = .ok (.iload_n 2, 1) := by decide +kernel
theorem jd_G_rule_38 : decode jb_G_rule 38 = .ok (.iconst 0, 1) := by decide +kernel
theorem jd_G_rule_39 : decode jb_G_rule 39 = .ok (.bipush 9, 2) := by decide +kernel
theorem jd_G_rule_41 : decode jb_G_rule 41 = .ok (.invokestatic 92, 3) := by decide +kernel
theorem jd_G_rule_44 : decode jb_G_rule 44 = .ok (.ifCond .eq 21, 3) := by decide +kernel
theorem jd_G_rule_47 : decode jb_G_rule 47 = .ok (.aload_n 0, 1) := by decide +kernel
theorem jd_G_rule_48 : decode jb_G_rule 48 = .ok (.getfield 58, 3) := by decide +kernel
theorem jd_G_rule_51 : decode jb_G_rule 51 = .ok (.getfield 250, 3) := by decide +kernel
theorem jd_G_rule_54 : decode jb_G_rule 54 = .ok (.istore_n 3, 1) := by decide +kernel
theorem jd_G_rule_55 : decode jb_G_rule 55 = .ok (.aload_n 0, 1) := by decide +kernel
theorem jd_G_rule_56 : decode jb_G_rule 56 = .ok (.getfield 58, 3) := by decide +kernel
theorem jd_G_rule_59 : decode jb_G_rule 59 = .ok (.iload_n 2, 1) := by decide +kernel
theorem jd_G_rule_60 : decode jb_G_rule 60 = .ok (.putfield 250, 3) := by decide +kernel
theorem jd_G_rule_63 : decode jb_G_rule 63 = .ok (.iload_n 3, 1) := by decide +kernel
theorem jd_G_rule_64 : decode jb_G_rule 64 = .ok (.ireturn, 1) := by decide +kernel
theorem jd_G_rule_65 : decode jb_G_rule 65 = .ok (.iconst (-1), 1) := by decide +kernel
theorem jd_G_rule_66 : decode jb_G_rule 66 = .ok (.ireturn, 1) := by decide +kernel
def f_G_rule_32 (F : Nat)  (x1 : Int32) (x2 : Int32) (I : j_M) : Option (Int32 × j_M) := (if x1 = 1 then j_bd (f_G_within F x2 0 9 I) (fun v1 I2 => (if v1 = 0 then some ((-1), I2) else j_let (I2 198 2) (fun v3 => j_let (j_wr I2 198 2 x2) (fun I4 => some (v3, I4))))) else some ((-1), I))
def f_G_rule (F : Nat) (x1 : Int32) (x2 : Int32) (I : j_M) : Option (Int32 × j_M) := (if x1 = 0 then j_bd (f_G_within F x2 5 99 I) (fun v5 I6 => (if v5 = 0 then f_G_rule_32 F x1 x2 I6 else j_let (I6 198 1) (fun v7 => j_let (j_wr I6 198 1 x2) (fun I8 => some (v7, I8))))) else f_G_rule_32 F x1 x2 I)
set_option maxRecDepth 100000 in
set_option maxHeartbeats 4000000 in
theorem k_G_rule_32 {p : Program} {l : Launch} {e : Env} {R : Room} {s : State} {m : MethodId} {args : Array Value} {below : List Frame} {meth : Method} {c : Code} {g : j_G} {b n : Nat} {P : j_R} {F : Nat} (hF : j_Fx 0 260 P) (hn : 260 ≤ n) (X : j_X p R s m args meth c g b 1 jb_G_rule 4 "PleasureGarden" (some .int))  {x1 : Int32} {x2 : Int32} {I : j_M} {r : Int32 × j_M}  (h : f_G_rule_32 F x1 x2 I = some r) : j_W p l e R s m args below meth c 4 g b n 0 0 (j_Qi g b n P below args s r) I P 32 [some (.ref (b + 0)), some (.int x1), some (.int x2), none] [] := by
  unfold f_G_rule_32 at h
  refine j_iload_n X jd_G_rule_32 rfl rfl ?_
  refine j_iconst (v := 1) X jd_G_rule_33 (by decide) ?_
  refine j_icmp_ne (tgt := 65) X jd_G_rule_34 rfl h (fun h => ?_) (fun h => ?_)
  · refine j_iload_n X jd_G_rule_37 rfl rfl ?_
    refine j_iconst (v := 0) X jd_G_rule_38 (by decide) ?_
    refine j_bipush (v := 9) X jd_G_rule_39 (by decide) ?_
    refine j_callSi (As := [.int x2, .int 0, .int 9]) (st := []) X h ⟨jqc_G_within, jqs_G_within, jqn_G⟩ jlm_G_92 jh_G_within.2 rfl (by decide) (by decide) (Nat.le_of_ble_eq_true rfl) ⟨Nat.zero_le _, Nat.zero_le _⟩ (fun v0 I0 h => k_G_within (r := (v0, I0)) hF hn h) jd_G_rule_41 rfl (fun v1 I2 h => ?_)
    refine j_if_eq (tgt := 65) X jd_G_rule_44 rfl h (fun h => ?_) (fun h => ?_)
    · refine j_iconst (v := (-1)) X jd_G_rule_65 (by decide) ?_
      exact j_iret X rfl jd_G_rule_66 h
    · refine j_aload_n X jd_G_rule_47 rfl rfl ?_
      refine j_getr X jf_G_58 jk_0_7 js_0 (j_lt rfl hn) (jp_0_7 hF) jd_G_rule_48 ?_
      refine j_get X jf_G_250 jk_8_2 js_198 (j_lt rfl hn) jd_G_rule_51 ?_
      refine j_nm h (fun v3 h => ?_)
      refine j_istore_n (lv' := [some (.ref (b + 0)), some (.int x1), some (.int x2), some (.int v3)]) X jd_G_rule_54 rfl (by decide) rfl ?_
      refine j_aload_n X jd_G_rule_55 rfl rfl ?_
      refine j_getr X jf_G_58 jk_0_7 js_0 (j_lt rfl hn) (jp_0_7 hF) jd_G_rule_56 ?_
      refine j_iload_n X jd_G_rule_59 rfl rfl ?_
      refine j_puti X jt_Ki jto_Ki jn_Ki jf_G_250 jk_8_2 js_198 (j_lt rfl hn) (Or.inl rfl) rfl jd_G_rule_60 ?_
      refine j_mem h (fun I4 h => ?_)
      refine j_iload_n X jd_G_rule_63 rfl rfl ?_
      exact j_iret X rfl jd_G_rule_64 h
  · refine j_iconst (v := (-1)) X jd_G_rule_65 (by decide) ?_
    exact j_iret X rfl jd_G_rule_66 h
set_option maxRecDepth 100000 in
set_option maxHeartbeats 4000000 in
theorem k_G_rule {l : Launch} {g : j_G} {b n : Nat} {P : j_R} {F : Nat} (hF : j_Fx 0 260 P) (hn : 260 ≤ n) {x1 : Int32} {x2 : Int32} {I : j_M} {r : Int32 × j_M}  (h : f_G_rule F x1 x2 I = some r) : j_Met l g b n P 1 jy_G_rule jb_G_rule 4 (some .int) [.ref (b + 0), .int x1, .int x2] I r.2 (some (.int r.1)) := by
  unfold f_G_rule at h
  refine j_enter (plainFor_of_name (by decide)) (Nat.le_of_ble_eq_true rfl) [some (.ref (b + 0)), some (.int x1), some (.int x2), none] rfl ?_
  intro p e R s m args below meth c X0 hnm hRc hRs
  have X : j_X p R s m args meth c g b 1 jb_G_rule 4 "PleasureGarden" (some .int) := X0
  clear X0
  refine j_iload_n X jd_G_rule_0 rfl rfl ?_
  refine j_if_ne (tgt := 32) X jd_G_rule_1 rfl h (fun h => ?_) (fun h => ?_)
  · refine j_iload_n X jd_G_rule_4 rfl rfl ?_
    refine j_iconst (v := 5) X jd_G_rule_5 (by decide) ?_
    refine j_bipush (v := 99) X jd_G_rule_6 (by decide) ?_
    refine j_callSi (As := [.int x2, .int 5, .int 99]) (st := []) X h ⟨jqc_G_within, jqs_G_within, jqn_G⟩ jlm_G_92 jh_G_within.2 rfl (by decide) (by decide) (Nat.le_of_ble_eq_true rfl) ⟨Nat.zero_le _, Nat.zero_le _⟩ (fun v0 I0 h => k_G_within (r := (v0, I0)) hF hn h) jd_G_rule_8 rfl (fun v5 I6 h => ?_)
    refine j_if_eq (tgt := 32) X jd_G_rule_11 rfl h (fun h => ?_) (fun h => ?_)
    · exact k_G_rule_32 hF hn X h
    · refine j_aload_n X jd_G_rule_14 rfl rfl ?_
      refine j_getr X jf_G_58 jk_0_7 js_0 (j_lt rfl hn) (jp_0_7 hF) jd_G_rule_15 ?_
      refine j_get X jf_G_247 jk_8_1 js_198 (j_lt rfl hn) jd_G_rule_18 ?_
      refine j_nm h (fun v7 h => ?_)
      refine j_istore_n (lv' := [some (.ref (b + 0)), some (.int x1), some (.int x2), some (.int v7)]) X jd_G_rule_21 rfl (by decide) rfl ?_
      refine j_aload_n X jd_G_rule_22 rfl rfl ?_
      refine j_getr X jf_G_58 jk_0_7 js_0 (j_lt rfl hn) (jp_0_7 hF) jd_G_rule_23 ?_
      refine j_iload_n X jd_G_rule_26 rfl rfl ?_
      refine j_puti X jt_Ki jto_Ki jn_Ki jf_G_247 jk_8_1 js_198 (j_lt rfl hn) (Or.inl rfl) rfl jd_G_rule_27 ?_
      refine j_mem h (fun I8 h => ?_)
      refine j_iload_n X jd_G_rule_30 rfl rfl ?_
      exact j_iret X rfl jd_G_rule_31 h
  · exact k_G_rule_32 hF hn X h
-- PleasureGarden.order(II)I
theorem jd_G_order_0 : decode jb_G_order 0 = .ok (.aload_n 0, 1) := by decide +kernel
theorem jd_G_order_1 : decode jb_G_order 1 = .ok (.getfield 30, 3) := by decide +kernel
theorem jd_G_order_4 : decode jb_G_order 4 = .ok (.iload_n 1, 1) := by decide +kernel
theorem jd_G_order_5 : decode jb_G_order 5 = .ok (.invokevirtual 147, 3) := by decide +kernel
theorem jd_G_order_8 : decode jb_G_order 8 = .ok (.ifCond .eq 13, 3) := by decide +kernel
theorem jd_G_order_11 : decode jb_G_order 11 = .ok (.iload_n 2, 1) := by decide +kernel
theorem jd_G_order_12 : decode jb_G_order 12 = .ok (.iconst 1, 1) := by decide +kernel
theorem jd_G_order_13 : decode jb_G_order 13 = .ok (.bipush 99, 2) := by decide +kernel
theorem jd_G_order_15 : decode jb_G_order 15 = .ok (.invokestatic 92, 3) := by decide +kernel
theorem jd_G_order_18 : decode jb_G_order 18 = .ok (.ifCond .ne 5, 3) := by decide +kernel
theorem jd_G_order_21 : decode jb_G_order 21 = .ok (.iconst (-1), 1) := by decide +kernel
theorem jd_G_order_22 : decode jb_G_order 22 = .ok (.ireturn, 1) := by decide +kernel
theorem jd_G_order_23 : decode jb_G_order 23 = .ok (.aload_n 0, 1) := by decide +kernel
theorem jd_G_order_24 : decode jb_G_order 24 = .ok (.getfield 30, 3) := by decide +kernel
theorem jd_G_order_27 : decode jb_G_order 27 = .ok (.getfield 148, 3) := by decide +kernel
theorem jd_G_order_30 : decode jb_G_order 30 = .ok (.iload_n 1, 1) := by decide +kernel
theorem jd_G_order_31 : decode jb_G_order 31 = .ok (.aaload, 1) := by decide +kernel
theorem jd_G_order_32 : decode jb_G_order 32 = .ok (.getfield 227, 3) := by decide +kernel
theorem jd_G_order_35 : decode jb_G_order 35 = .ok (.iconst (-1), 1) := by decide +kernel
theorem jd_G_order_36 : decode jb_G_order 36 = .ok (.if_icmp .ne 6, 3) := by decide +kernel
theorem jd_G_order_39 : decode jb_G_order 39 = .ok (.bipush (-2), 2) := by decide +kernel
theorem jd_G_order_41 : decode jb_G_order 41 = .ok (.ireturn, 1) := by decide +kernel
theorem jd_G_order_42 : decode jb_G_order 42 = .ok (.aload_n 0, 1) := by decide +kernel
theorem jd_G_order_43 : decode jb_G_order 43 = .ok (.getfield 58, 3) := by decide +kernel
theorem jd_G_order_46 : decode jb_G_order 46 = .ok (.getfield 253, 3) := by decide +kernel
theorem jd_G_order_49 : decode jb_G_order 49 = .ok (.bipush 60, 2) := by decide +kernel
theorem jd_G_order_51 : decode jb_G_order 51 = .ok (.if_icmp .lt 8, 3) := by decide +kernel
theorem jd_G_order_54 : decode jb_G_order 54 = .ok (.bipush (-3), 2) := by decide +kernel
theorem jd_G_order_56 : decode jb_G_order 56 = .ok (.goto 13, 3) := by decide +kernel
theorem jd_G_order_59 : decode jb_G_order 59 = .ok (.aload_n 0, 1) := by decide +kernel
theorem jd_G_order_60 : decode jb_G_order 60 = .ok (.getfield 58, 3) := by decide +kernel
theorem jd_G_order_63 : decode jb_G_order 63 = .ok (.iload_n 1, 1) := by decide +kernel
theorem jd_G_order_64 : decode jb_G_order 64 = .ok (.iload_n 2, 1) := by decide +kernel
theorem jd_G_order_65 : decode jb_G_order 65 = .ok (.iconst 0, 1) := by decide +kernel
theorem jd_G_order_66 : decode jb_G_order 66 = .ok (.invokevirtual 256, 3) := by decide +kernel
theorem jd_G_order_69 : decode jb_G_order 69 = .ok (.ireturn, 1) := by decide +kernel
def f_G_order (F : Nat) (x1 : Int32) (x2 : Int32) (I : j_M) : Option (Int32 × j_M) := j_bd (f_Gu_has F x1 I) (fun v1 I2 => (if v1 = 0 then some ((-1), I2) else j_bd (f_G_within F x2 1 99 I2) (fun v3 I4 => (if v3 = 0 then some ((-1), I4) else (if j_ok x1 100 = true then (if (I4 (43 + (j_ix x1)) 6) = (-1) then some ((-2), I4) else (if (I4 198 4) < 60 then j_bd (f_Ki_append F x1 x2 0 I4) (fun v6 I7 => some (v6, I7)) else some ((-3), I4))) else none)))))
set_option maxRecDepth 100000 in
set_option maxHeartbeats 4000000 in
theorem k_G_order {l : Launch} {g : j_G} {b n : Nat} {P : j_R} {F : Nat} (hF : j_Fx 0 260 P) (hn : 260 ≤ n) {x1 : Int32} {x2 : Int32} {I : j_M} {r : Int32 × j_M}  (h : f_G_order F x1 x2 I = some r) : j_Met l g b n P 1 jy_G_order jb_G_order 3 (some .int) [.ref (b + 0), .int x1, .int x2] I r.2 (some (.int r.1)) := by
  unfold f_G_order at h
  refine j_enter (plainFor_of_name (by decide)) (Nat.le_of_ble_eq_true rfl) [some (.ref (b + 0)), some (.int x1), some (.int x2)] rfl ?_
  intro p e R s m args below meth c X0 hnm hRc hRs
  have X : j_X p R s m args meth c g b 1 jb_G_order 3 "PleasureGarden" (some .int) := X0
  clear X0
  refine j_aload_n X jd_G_order_0 rfl rfl ?_
  refine j_getr X jf_G_30 jk_0_3 js_0 (j_lt rfl hn) (jp_0_3 hF) jd_G_order_1 ?_
  refine j_iload_n X jd_G_order_4 rfl rfl ?_
  refine j_callVi (As := [.int x1]) (st := []) (c0 := 41) X h jc_Gu js_41 (j_lt rfl hn) ⟨jqc_Gu_has, jqi_Gu_has, jqv_Gu_has, jqn_Gu⟩ jlm_G_147 jh_Gu_has rfl (by decide) (by decide) (Nat.le_of_ble_eq_true rfl) ⟨Nat.zero_le _, Nat.zero_le _⟩ (fun v0 I0 h => k_Gu_has (r := (v0, I0)) hF hn h) jd_G_order_5 rfl (fun v1 I2 h => ?_)
  refine j_if_eq (tgt := 21) X jd_G_order_8 rfl h (fun h => ?_) (fun h => ?_)
  · refine j_iconst (v := (-1)) X jd_G_order_21 (by decide) ?_
    exact j_iret X rfl jd_G_order_22 h
  · refine j_iload_n X jd_G_order_11 rfl rfl ?_
    refine j_iconst (v := 1) X jd_G_order_12 (by decide) ?_
    refine j_bipush (v := 99) X jd_G_order_13 (by decide) ?_
    refine j_callSi (As := [.int x2, .int 1, .int 99]) (st := []) X h ⟨jqc_G_within, jqs_G_within, jqn_G⟩ jlm_G_92 jh_G_within.2 rfl (by decide) (by decide) (Nat.le_of_ble_eq_true rfl) ⟨Nat.zero_le _, Nat.zero_le _⟩ (fun v0 I0 h => k_G_within (r := (v0, I0)) hF hn h) jd_G_order_15 rfl (fun v3 I4 h => ?_)
    refine j_if_ne (tgt := 23) X jd_G_order_18 rfl h (fun h => ?_) (fun h => ?_)
    · refine j_iconst (v := (-1)) X jd_G_order_21 (by decide) ?_
      exact j_iret X rfl jd_G_order_22 h
    · refine j_aload_n X jd_G_order_23 rfl rfl ?_
      refine j_getr X jf_G_30 jk_0_3 js_0 (j_lt rfl hn) (jp_0_3 hF) jd_G_order_24 ?_
      refine j_getr X jf_G_148 jk_3_1 js_41 (j_lt rfl hn) (jp_41_1 hF) jd_G_order_27 ?_
      refine j_iload_n X jd_G_order_30 rfl rfl ?_
      refine j_aald X rfl rfl js_42 (j_lt rfl hn) jd_G_order_31 (fun q => ja_42 hF _ (j_ok_lt q)) h (fun hb5 h => ?_)
      refine j_get X jf_G_227 jk_4_6 (jsp_43 (j_ok_lt hb5)) (j_ltq (j_ok_lt hb5) rfl hn) jd_G_order_32 ?_
      refine j_iconst (v := (-1)) X jd_G_order_35 (by decide) ?_
      refine j_icmp_ne (tgt := 42) X jd_G_order_36 rfl h (fun h => ?_) (fun h => ?_)
      · refine j_bipush (v := (-2)) X jd_G_order_39 (by decide) ?_
        exact j_iret X rfl jd_G_order_41 h
      · refine j_aload_n X jd_G_order_42 rfl rfl ?_
        refine j_getr X jf_G_58 jk_0_7 js_0 (j_lt rfl hn) (jp_0_7 hF) jd_G_order_43 ?_
        refine j_get X jf_G_253 jk_8_4 js_198 (j_lt rfl hn) jd_G_order_46 ?_
        refine j_bipush (v := 60) X jd_G_order_49 (by decide) ?_
        refine j_icmp_lt (tgt := 59) X jd_G_order_51 rfl h (fun h => ?_) (fun h => ?_)
        · refine j_aload_n X jd_G_order_59 rfl rfl ?_
          refine j_getr X jf_G_58 jk_0_7 js_0 (j_lt rfl hn) (jp_0_7 hF) jd_G_order_60 ?_
          refine j_iload_n X jd_G_order_63 rfl rfl ?_
          refine j_iload_n X jd_G_order_64 rfl rfl ?_
          refine j_iconst (v := 0) X jd_G_order_65 (by decide) ?_
          refine j_callVi (As := [.int x1, .int x2, .int 0]) (st := []) (c0 := 198) X h jc_Ki js_198 (j_lt rfl hn) ⟨jqc_Ki_append, jqi_Ki_append, jqv_Ki_append, jqn_Ki⟩ jlm_G_256 jh_Ki_append rfl (by decide) (by decide) (Nat.le_of_ble_eq_true rfl) ⟨Nat.zero_le _, Nat.zero_le _⟩ (fun v0 I0 h => k_Ki_append (r := (v0, I0)) hF hn h) jd_G_order_66 rfl (fun v6 I7 h => ?_)
          exact j_iret X rfl jd_G_order_69 h
        · refine j_bipush (v := (-3)) X jd_G_order_54 (by decide) ?_
          refine j_goto (tgt := 69) X jd_G_order_56 rfl ?_
          exact j_iret X rfl jd_G_order_69 h
-- PleasureGarden.feed(II)I
theorem jd_G_feed_0 : decode jb_G_feed 0 = .ok (.iload_n 1, 1) := by decide +kernel
theorem jd_G_feed_1 : decode jb_G_feed 1 = .ok (.iconst 1, 1) := by decide +kernel
theorem jd_G_feed_2 : decode jb_G_feed 2 = .ok (.iconst 4, 1) := by decide +kernel
theorem jd_G_feed_3 : decode jb_G_feed 3 = .ok (.invokestatic 92, 3) := by decide +kernel
theorem jd_G_feed_6 : decode jb_G_feed 6 = .ok (.ifCond .ne 5, 3) := by decide +kernel
theorem jd_G_feed_9 : decode jb_G_feed 9 = .ok (.iconst (-1), 1) := by decide +kernel
theorem jd_G_feed_10 : decode jb_G_feed 10 = .ok (.ireturn, 1) := by decide +kernel
theorem jd_G_feed_11 : decode jb_G_feed 11 = .ok (.aload_n 0, 1) := by decide +kernel
theorem jd_G_feed_12 : decode jb_G_feed 12 = .ok (.getfield 65, 3) := by decide +kernel
theorem jd_G_feed_15 : decode jb_G_feed 15 = .ok (.getfield 260, 3) := by decide +kernel
theorem jd_G_feed_18 : decode jb_G_feed 18 = .ok (.iload_n 1, 1) := by decide +kernel
theorem jd_G_feed_19 : decode jb_G_feed 19 = .ok (.iadd, 1) := by decide +kernel
theorem jd_G_feed_20 : decode jb_G_feed 20 = .ok (.bipush 120, 2) := by decide +kernel
theorem jd_G_feed_22 : decode jb_G_feed 22 = .ok (.if_icmp .le 8, 3) := by decide +kernel
theorem jd_G_feed_25 : decode jb_G_feed 25 = .ok (.bipush (-3), 2) := by decide +kernel
theorem jd_G_feed_27 : decode jb_G_feed 27 = .ok (.goto 12, 3) := by decide +kernel
theorem jd_G_feed_30 : decode jb_G_feed 30 = .ok (.aload_n 0, 1) := by decide +kernel
theorem jd_G_feed_31 : decode jb_G_feed 31 = .ok (.getfield 65, 3) := by decide +kernel
theorem jd_G_feed_34 : decode jb_G_feed 34 = .ok (.iload_n 1, 1) := by decide +kernel
theorem jd_G_feed_35 : decode jb_G_feed 35 = .ok (.iload_n 2, 1) := by decide +kernel
theorem jd_G_feed_36 : decode jb_G_feed 36 = .ok (.invokevirtual 263, 3) := by decide +kernel
theorem jd_G_feed_39 : decode jb_G_feed 39 = .ok (.ireturn, 1) := by decide +kernel
def f_G_feed (F : Nat) (x1 : Int32) (x2 : Int32) (I : j_M) : Option (Int32 × j_M) := j_bd (f_G_within F x1 1 4 I) (fun v1 I2 => (if v1 = 0 then some ((-1), I2) else (if ((I2 202 1) + x1) ≤ 120 then j_bd (f_Pr_write F x1 x2 I2) (fun v3 I4 => some (v3, I4)) else some ((-3), I2))))
set_option maxRecDepth 100000 in
set_option maxHeartbeats 4000000 in
theorem k_G_feed {l : Launch} {g : j_G} {b n : Nat} {P : j_R} {F : Nat} (hF : j_Fx 0 260 P) (hn : 260 ≤ n) {x1 : Int32} {x2 : Int32} {I : j_M} {r : Int32 × j_M}  (h : f_G_feed F x1 x2 I = some r) : j_Met l g b n P 1 jy_G_feed jb_G_feed 3 (some .int) [.ref (b + 0), .int x1, .int x2] I r.2 (some (.int r.1)) := by
  unfold f_G_feed at h
  refine j_enter (plainFor_of_name (by decide)) (Nat.le_of_ble_eq_true rfl) [some (.ref (b + 0)), some (.int x1), some (.int x2)] rfl ?_
  intro p e R s m args below meth c X0 hnm hRc hRs
  have X : j_X p R s m args meth c g b 1 jb_G_feed 3 "PleasureGarden" (some .int) := X0
  clear X0
  refine j_iload_n X jd_G_feed_0 rfl rfl ?_
  refine j_iconst (v := 1) X jd_G_feed_1 (by decide) ?_
  refine j_iconst (v := 4) X jd_G_feed_2 (by decide) ?_
  refine j_callSi (As := [.int x1, .int 1, .int 4]) (st := []) X h ⟨jqc_G_within, jqs_G_within, jqn_G⟩ jlm_G_92 jh_G_within.2 rfl (by decide) (by decide) (Nat.le_of_ble_eq_true rfl) ⟨Nat.zero_le _, Nat.zero_le _⟩ (fun v0 I0 h => k_G_within (r := (v0, I0)) hF hn h) jd_G_feed_3 rfl (fun v1 I2 h => ?_)
  refine j_if_ne (tgt := 11) X jd_G_feed_6 rfl h (fun h => ?_) (fun h => ?_)
  · refine j_iconst (v := (-1)) X jd_G_feed_9 (by decide) ?_
    exact j_iret X rfl jd_G_feed_10 h
  · refine j_aload_n X jd_G_feed_11 rfl rfl ?_
    refine j_getr X jf_G_65 jk_0_8 js_0 (j_lt rfl hn) (jp_0_8 hF) jd_G_feed_12 ?_
    refine j_get X jf_G_260 jk_9_1 js_202 (j_lt rfl hn) jd_G_feed_15 ?_
    refine j_iload_n X jd_G_feed_18 rfl rfl ?_
    refine j_iadd X jd_G_feed_19 ?_
    refine j_bipush (v := 120) X jd_G_feed_20 (by decide) ?_
    refine j_icmp_le (tgt := 30) X jd_G_feed_22 rfl h (fun h => ?_) (fun h => ?_)
    · refine j_aload_n X jd_G_feed_30 rfl rfl ?_
      refine j_getr X jf_G_65 jk_0_8 js_0 (j_lt rfl hn) (jp_0_8 hF) jd_G_feed_31 ?_
      refine j_iload_n X jd_G_feed_34 rfl rfl ?_
      refine j_iload_n X jd_G_feed_35 rfl rfl ?_
      refine j_callVi (As := [.int x1, .int x2]) (st := []) (c0 := 202) X h jc_Pr js_202 (j_lt rfl hn) ⟨jqc_Pr_write, jqi_Pr_write, jqv_Pr_write, jqn_Pr⟩ jlm_G_263 jh_Pr_write rfl (by decide) (by decide) (Nat.le_of_ble_eq_true rfl) ⟨Nat.zero_le _, Nat.zero_le _⟩ (fun v0 I0 h => k_Pr_write (r := (v0, I0)) hF hn h) jd_G_feed_36 rfl (fun v3 I4 h => ?_)
      exact j_iret X rfl jd_G_feed_39 h
    · refine j_bipush (v := (-3)) X jd_G_feed_25 (by decide) ?_
      refine j_goto (tgt := 39) X jd_G_feed_27 rfl ?_
      exact j_iret X rfl jd_G_feed_39 h
-- PleasureGarden.inForce(III)I
theorem jd_G_inForce_0 : decode jb_G_inForce 0 = .ok (.iload_n 1, 1) := by decide +kernel
theorem jd_G_inForce_1 : decode jb_G_inForce 1 = .ok (.iconst 0, 1) := by decide +kernel
theorem jd_G_inForce_2 : decode jb_G_inForce 2 = .ok (.iconst 2, 1) := by decide +kernel
theorem jd_G_inForce_3 : decode jb_G_inForce 3 = .ok (.invokestatic 92, 3) := by decide +kernel
theorem jd_G_inForce_6 : decode jb_G_inForce 6 = .ok (.ifCond .eq 25, 3) := by decide +kernel
theorem jd_G_inForce_9 : decode jb_G_inForce 9 = .ok (.iload_n 2, 1) := by decide +kernel
theorem jd_G_inForce_10 : decode jb_G_inForce 10 = .ok (.iconst 0, 1) := by decide +kernel
theorem jd_G_inForce_11 : decode jb_G_inForce 11 = .ok (.sipush 199, 3) := by decide +kernel
theorem jd_G_inForce_14 : decode jb_G_inForce 14 = .ok (.invokestatic 92, 3) := by decide +kernel
theorem jd_G_inForce_17 : decode jb_G_inForce 17 = .ok (.ifCond .eq 14, 3) := by decide +kernel
theorem jd_G_inForce_20 : decode jb_G_inForce 20 = .ok (.iload_n 3, 1) := by decide +kernel
theorem jd_G_inForce_21 : decode jb_G_inForce 21 = .ok (.iconst 0, 1) := by decide +kernel
theorem jd_G_inForce_22 : decode jb_G_inForce 22 = .ok (.sipush 199, 3) := by decide +kernel
theorem jd_G_inForce_25 : decode jb_G_inForce 25 = .ok (.invokestatic 92, 3) := by decide +kernel
theorem jd_G_inForce_28 : decode jb_G_inForce 28 = .ok (.ifCond .ne 5, 3) := by decide +kernel
theorem jd_G_inForce_31 : decode jb_G_inForce 31 = .ok (.iconst (-1), 1) := by decide +kernel
theorem jd_G_inForce_32 : decode jb_G_inForce 32 = .ok (.ireturn, 1) := by decide +kernel
theorem jd_G_inForce_33 : decode jb_G_inForce 33 = .ok (.aload_n 0, 1) := by decide +kernel
theorem jd_G_inForce_34 : decode jb_G_inForce 34 = .ok (.getfield 65, 3) := by decide +kernel
theorem jd_G_inForce_37 : decode jb_G_inForce 37 = .ok (.iload_n 1, 1) := by decide +kernel
theorem jd_G_inForce_38 : decode jb_G_inForce 38 = .ok (.iload_n 2, 1) := by decide +kernel
theorem jd_G_inForce_39 : decode jb_G_inForce 39 = .ok (.iload_n 3, 1) := by decide +kernel
theorem jd_G_inForce_40 : decode jb_G_inForce 40 = .ok (.invokevirtual 132, 3) := by decide +kernel
theorem jd_G_inForce_43 : decode jb_G_inForce 43 = .ok (.istore 4, 2) := by decide +kernel
theorem jd_G_inForce_45 : decode jb_G_inForce 45 = .ok (.iload 4, 2) := by decide +kernel
theorem jd_G_inForce_47 : decode jb_G_inForce 47 = .ok (.iconst (-1), 1) := by decide +kernel
theorem jd_G_inForce_48 : decode jb_G_inForce 48 = .ok (.if_icmp .ne 8, 3) := by decide +kernel
theorem jd_G_inForce_51 : decode jb_G_inForce 51 = .ok (.bipush (-2), 2) := by decide +kernel
theorem jd_G_inForce_53 : decode jb_G_inForce 53 = .ok (.goto 5, 3) := by decide +kernel
theorem jd_G_inForce_56 : decode jb_G_inForce 56 = .ok (.iload 4, 2) := by decide +kernel
theorem jd_G_inForce_58 : decode jb_G_inForce 58 = .ok (.ireturn, 1) := by decide +kernel
def f_G_inForce (F : Nat) (x1 : Int32) (x2 : Int32) (x3 : Int32) (I : j_M) : Option (Int32 × j_M) := j_bd (f_G_within F x1 0 2 I) (fun v1 I2 => (if v1 = 0 then some ((-1), I2) else j_bd (f_G_within F x2 0 199 I2) (fun v3 I4 => (if v3 = 0 then some ((-1), I4) else j_bd (f_G_within F x3 0 199 I4) (fun v5 I6 => (if v5 = 0 then some ((-1), I6) else j_bd (f_Pr_latest F x1 x2 x3 I6) (fun v7 I8 => (if v7 = (-1) then some ((-2), I8) else some (v7, I8)))))))))
set_option maxRecDepth 100000 in
set_option maxHeartbeats 4000000 in
theorem k_G_inForce {l : Launch} {g : j_G} {b n : Nat} {P : j_R} {F : Nat} (hF : j_Fx 0 260 P) (hn : 260 ≤ n) {x1 : Int32} {x2 : Int32} {x3 : Int32} {I : j_M} {r : Int32 × j_M}  (h : f_G_inForce F x1 x2 x3 I = some r) : j_Met l g b n P 1 jy_G_inForce jb_G_inForce 5 (some .int) [.ref (b + 0), .int x1, .int x2, .int x3] I r.2 (some (.int r.1)) := by
  unfold f_G_inForce at h
  refine j_enter (plainFor_of_name (by decide)) (Nat.le_of_ble_eq_true rfl) [some (.ref (b + 0)), some (.int x1), some (.int x2), some (.int x3), none] rfl ?_
  intro p e R s m args below meth c X0 hnm hRc hRs
  have X : j_X p R s m args meth c g b 1 jb_G_inForce 5 "PleasureGarden" (some .int) := X0
  clear X0
  refine j_iload_n X jd_G_inForce_0 rfl rfl ?_
  refine j_iconst (v := 0) X jd_G_inForce_1 (by decide) ?_
  refine j_iconst (v := 2) X jd_G_inForce_2 (by decide) ?_
  refine j_callSi (As := [.int x1, .int 0, .int 2]) (st := []) X h ⟨jqc_G_within, jqs_G_within, jqn_G⟩ jlm_G_92 jh_G_within.2 rfl (by decide) (by decide) (Nat.le_of_ble_eq_true rfl) ⟨Nat.zero_le _, Nat.zero_le _⟩ (fun v0 I0 h => k_G_within (r := (v0, I0)) hF hn h) jd_G_inForce_3 rfl (fun v1 I2 h => ?_)
  refine j_if_eq (tgt := 31) X jd_G_inForce_6 rfl h (fun h => ?_) (fun h => ?_)
  · refine j_iconst (v := (-1)) X jd_G_inForce_31 (by decide) ?_
    exact j_iret X rfl jd_G_inForce_32 h
  · refine j_iload_n X jd_G_inForce_9 rfl rfl ?_
    refine j_iconst (v := 0) X jd_G_inForce_10 (by decide) ?_
    refine j_sipush (v := 199) X jd_G_inForce_11 (by decide) ?_
    refine j_callSi (As := [.int x2, .int 0, .int 199]) (st := []) X h ⟨jqc_G_within, jqs_G_within, jqn_G⟩ jlm_G_92 jh_G_within.2 rfl (by decide) (by decide) (Nat.le_of_ble_eq_true rfl) ⟨Nat.zero_le _, Nat.zero_le _⟩ (fun v0 I0 h => k_G_within (r := (v0, I0)) hF hn h) jd_G_inForce_14 rfl (fun v3 I4 h => ?_)
    refine j_if_eq (tgt := 31) X jd_G_inForce_17 rfl h (fun h => ?_) (fun h => ?_)
    · refine j_iconst (v := (-1)) X jd_G_inForce_31 (by decide) ?_
      exact j_iret X rfl jd_G_inForce_32 h
    · refine j_iload_n X jd_G_inForce_20 rfl rfl ?_
      refine j_iconst (v := 0) X jd_G_inForce_21 (by decide) ?_
      refine j_sipush (v := 199) X jd_G_inForce_22 (by decide) ?_
      refine j_callSi (As := [.int x3, .int 0, .int 199]) (st := []) X h ⟨jqc_G_within, jqs_G_within, jqn_G⟩ jlm_G_92 jh_G_within.2 rfl (by decide) (by decide) (Nat.le_of_ble_eq_true rfl) ⟨Nat.zero_le _, Nat.zero_le _⟩ (fun v0 I0 h => k_G_within (r := (v0, I0)) hF hn h) jd_G_inForce_25 rfl (fun v5 I6 h => ?_)
      refine j_if_ne (tgt := 33) X jd_G_inForce_28 rfl h (fun h => ?_) (fun h => ?_)
      · refine j_iconst (v := (-1)) X jd_G_inForce_31 (by decide) ?_
        exact j_iret X rfl jd_G_inForce_32 h
      · refine j_aload_n X jd_G_inForce_33 rfl rfl ?_
        refine j_getr X jf_G_65 jk_0_8 js_0 (j_lt rfl hn) (jp_0_8 hF) jd_G_inForce_34 ?_
        refine j_iload_n X jd_G_inForce_37 rfl rfl ?_
        refine j_iload_n X jd_G_inForce_38 rfl rfl ?_
        refine j_iload_n X jd_G_inForce_39 rfl rfl ?_
        refine j_callVi (As := [.int x1, .int x2, .int x3]) (st := []) (c0 := 202) X h jc_Pr js_202 (j_lt rfl hn) ⟨jqc_Pr_latest, jqi_Pr_latest, jqv_Pr_latest, jqn_Pr⟩ jlm_G_132 jh_Pr_latest rfl (by decide) (by decide) (Nat.le_of_ble_eq_true rfl) ⟨Nat.zero_le _, Nat.zero_le _⟩ (fun v0 I0 h => k_Pr_latest (r := (v0, I0)) hF hn h) jd_G_inForce_40 rfl (fun v7 I8 h => ?_)
        refine j_istore (lv' := [some (.ref (b + 0)), some (.int x1), some (.int x2), some (.int x3), some (.int v7)]) X jd_G_inForce_43 (by decide) rfl ?_
        refine j_iload X jd_G_inForce_45 rfl ?_
        refine j_iconst (v := (-1)) X jd_G_inForce_47 (by decide) ?_
        refine j_icmp_ne (tgt := 56) X jd_G_inForce_48 rfl h (fun h => ?_) (fun h => ?_)
        · refine j_bipush (v := (-2)) X jd_G_inForce_51 (by decide) ?_
          refine j_goto (tgt := 58) X jd_G_inForce_53 rfl ?_
          exact j_iret X rfl jd_G_inForce_58 h
        · refine j_iload X jd_G_inForce_56 rfl ?_
          exact j_iret X rfl jd_G_inForce_58 h
-- PleasureGarden.night(II)I
theorem jd_G_night_0 : decode jb_G_night 0 = .ok (.iload_n 1, 1) := by decide +kernel
theorem jd_G_night_1 : decode jb_G_night 1 = .ok (.iconst 0, 1) := by decide +kernel
theorem jd_G_night_2 : decode jb_G_night 2 = .ok (.aload_n 0, 1) := by decide +kernel
theorem jd_G_night_3 : decode jb_G_night 3 = .ok (.getfield 72, 3) := by decide +kernel
theorem jd_G_night_6 : decode jb_G_night 6 = .ok (.getfield 289, 3) := by decide +kernel
theorem jd_G_night_9 : decode jb_G_night 9 = .ok (.iconst 1, 1) := by decide +kernel
theorem jd_G_night_10 : decode jb_G_night 10 = .ok (.isub, 1) := by decide +kernel
theorem jd_G_night_11 : decode jb_G_night 11 = .ok (.invokestatic 92, 3) := by decide +kernel
theorem jd_G_night_14 : decode jb_G_night 14 = .ok (.ifCond .ne 7, 3) := by decide +kernel
theorem jd_G_night_17 : decode jb_G_night 17 = .ok (.ldc_w 271, 3) := by decide +kernel
theorem jd_G_night_20 : decode jb_G_night 20 = .ok (.ireturn, 1) := by decide +kernel
theorem jd_G_night_21 : decode jb_G_night 21 = .ok (.iload_n 2, 1) := by decide +kernel
theorem jd_G_night_22 : decode jb_G_night 22 = .ok (.tableswitch 56 0 2 #[26, 36, 46], 26) := by decide +kernel
theorem jd_G_night_48 : decode jb_G_night 48 = .ok (.aload_n 0, 1) := by decide +kernel
theorem jd_G_night_49 : decode jb_G_night 49 = .ok (.getfield 72, 3) := by decide +kernel
theorem jd_G_night_52 : decode jb_G_night 52 = .ok (.getfield 290, 3) := by decide +kernel
theorem jd_G_night_55 : decode jb_G_night 55 = .ok (.iload_n 1, 1) := by decide +kernel
theorem jd_G_night_56 : decode jb_G_night 56 = .ok (.iaload, 1) := by decide +kernel
theorem jd_G_night_57 : decode jb_G_night 57 = .ok (.ireturn, 1) := by decide +kernel
theorem jd_G_night_58 : decode jb_G_night 58 = .ok (.aload_n 0, 1) := by decide +kernel
theorem jd_G_night_59 : decode jb_G_night 59 = .ok (.getfield 72, 3) := by decide +kernel
theorem jd_G_night_62 : decode jb_G_night 62 = .ok (.getfield 292, 3) := by decide +kernel
theorem jd_G_night_65 : decode jb_G_night 65 = .ok (.iload_n 1, 1) := by decide +kernel
theorem jd_G_night_66 : decode jb_G_night 66 = .ok (.iaload, 1) := by decide +kernel
theorem jd_G_night_67 : decode jb_G_night 67 = .ok (.ireturn, 1) := by decide +kernel
theorem jd_G_night_68 : decode jb_G_night 68 = .ok (.aload_n 0, 1) := by decide +kernel
theorem jd_G_night_69 : decode jb_G_night 69 = .ok (.getfield 72, 3) := by decide +kernel
theorem jd_G_night_72 : decode jb_G_night 72 = .ok (.getfield 295, 3) := by decide +kernel
theorem jd_G_night_75 : decode jb_G_night 75 = .ok (.iload_n 1, 1) := by decide +kernel
theorem jd_G_night_76 : decode jb_G_night 76 = .ok (.iaload, 1) := by decide +kernel
theorem jd_G_night_77 : decode jb_G_night 77 = .ok (.ireturn, 1) := by decide +kernel
theorem jd_G_night_78 : decode jb_G_night 78 = .ok (.ldc_w 271, 3) := by decide +kernel
theorem jd_G_night_81 : decode jb_G_night 81 = .ok (.ireturn, 1) := by decide +kernel
def f_G_night (F : Nat) (x1 : Int32) (x2 : Int32) (I : j_M) : Option (Int32 × j_M) := j_bd (f_G_within F x1 0 ((I 211 0) - 1) I) (fun v1 I2 => (if v1 = 0 then some ((-2000000000), I2) else (if x2 = 0 then (if j_ok x1 200 = true then some (I2 212 (j_ix x1), I2) else none) else (if x2 = 1 then (if j_ok x1 200 = true then some (I2 213 (j_ix x1), I2) else none) else (if x2 = 2 then (if j_ok x1 200 = true then some (I2 214 (j_ix x1), I2) else none) else some ((-2000000000), I2))))))
set_option maxRecDepth 100000 in
set_option maxHeartbeats 4000000 in
theorem k_G_night {l : Launch} {g : j_G} {b n : Nat} {P : j_R} {F : Nat} (hF : j_Fx 0 260 P) (hn : 260 ≤ n) {x1 : Int32} {x2 : Int32} {I : j_M} {r : Int32 × j_M}  (h : f_G_night F x1 x2 I = some r) : j_Met l g b n P 1 jy_G_night jb_G_night 3 (some .int) [.ref (b + 0), .int x1, .int x2] I r.2 (some (.int r.1)) := by
  unfold f_G_night at h
  refine j_enter (plainFor_of_name (by decide)) (Nat.le_of_ble_eq_true rfl) [some (.ref (b + 0)), some (.int x1), some (.int x2)] rfl ?_
  intro p e R s m args below meth c X0 hnm hRc hRs
  have X : j_X p R s m args meth c g b 1 jb_G_night 3 "PleasureGarden" (some .int) := X0
  clear X0
  refine j_iload_n X jd_G_night_0 rfl rfl ?_
  refine j_iconst (v := 0) X jd_G_night_1 (by decide) ?_
  refine j_aload_n X jd_G_night_2 rfl rfl ?_
  refine j_getr X jf_G_72 jk_0_9 js_0 (j_lt rfl hn) (jp_0_9 hF) jd_G_night_3 ?_
  refine j_get X jf_G_289 jk_11_0 js_211 (j_lt rfl hn) jd_G_night_6 ?_
  refine j_iconst (v := 1) X jd_G_night_9 (by decide) ?_
  refine j_isub X jd_G_night_10 ?_
  refine j_callSi (As := [.int x1, .int 0, .int ((I 211 0) - 1)]) (st := []) X h ⟨jqc_G_within, jqs_G_within, jqn_G⟩ jlm_G_92 jh_G_within.2 rfl (by decide) (by decide) (Nat.le_of_ble_eq_true rfl) ⟨Nat.zero_le _, Nat.zero_le _⟩ (fun v0 I0 h => k_G_within (r := (v0, I0)) hF hn h) jd_G_night_11 rfl (fun v1 I2 h => ?_)
  refine j_if_ne (tgt := 21) X jd_G_night_14 rfl h (fun h => ?_) (fun h => ?_)
  · refine j_ldcw (v := (-2000000000)) X jlc_G_271 jd_G_night_17 ?_
    exact j_iret X rfl jd_G_night_20 h
  · refine j_iload_n X jd_G_night_21 rfl rfl ?_
    refine j_ite h (fun e3 h => ?_) (fun e3 h => ?_)
    · refine j_tableIn (tgt := 48) (off := 26) X jd_G_night_22 e3 (by decide) (by decide) (by decide) rfl ?_
      refine j_aload_n X jd_G_night_48 rfl rfl ?_
      refine j_getr X jf_G_72 jk_0_9 js_0 (j_lt rfl hn) (jp_0_9 hF) jd_G_night_49 ?_
      refine j_getr X jf_G_290 jk_11_1 js_211 (j_lt rfl hn) (jp_211_1 hF) jd_G_night_52 ?_
      refine j_iload_n X jd_G_night_55 rfl rfl ?_
      refine j_iald X js_212 (j_lt rfl hn) jd_G_night_56 h (fun _ h => ?_)
      exact j_iret X rfl jd_G_night_57 h
    · refine j_ite h (fun e4 h => ?_) (fun e4 h => ?_)
      · refine j_tableIn (tgt := 58) (off := 36) X jd_G_night_22 e4 (by decide) (by decide) (by decide) rfl ?_
        refine j_aload_n X jd_G_night_58 rfl rfl ?_
        refine j_getr X jf_G_72 jk_0_9 js_0 (j_lt rfl hn) (jp_0_9 hF) jd_G_night_59 ?_
        refine j_getr X jf_G_292 jk_11_2 js_211 (j_lt rfl hn) (jp_211_2 hF) jd_G_night_62 ?_
        refine j_iload_n X jd_G_night_65 rfl rfl ?_
        refine j_iald X js_213 (j_lt rfl hn) jd_G_night_66 h (fun _ h => ?_)
        exact j_iret X rfl jd_G_night_67 h
      · refine j_ite h (fun e5 h => ?_) (fun e5 h => ?_)
        · refine j_tableIn (tgt := 68) (off := 46) X jd_G_night_22 e5 (by decide) (by decide) (by decide) rfl ?_
          refine j_aload_n X jd_G_night_68 rfl rfl ?_
          refine j_getr X jf_G_72 jk_0_9 js_0 (j_lt rfl hn) (jp_0_9 hF) jd_G_night_69 ?_
          refine j_getr X jf_G_295 jk_11_3 js_211 (j_lt rfl hn) (jp_211_3 hF) jd_G_night_72 ?_
          refine j_iload_n X jd_G_night_75 rfl rfl ?_
          refine j_iald X js_214 (j_lt rfl hn) jd_G_night_76 h (fun _ h => ?_)
          exact j_iret X rfl jd_G_night_77 h
        · refine j_tableDef (tgt := 78) X [0, 1, 2] jd_G_night_22 (j_allc e3 (j_allc e4 (j_allc e5 j_all0))) (by decide) (by decide) (by decide) (by decide) rfl ?_
          refine j_ldcw (v := (-2000000000)) X jlc_G_271 jd_G_night_78 ?_
          exact j_iret X rfl jd_G_night_81 h
-- PleasureGarden.stolen(II)I
theorem jd_G_stolen_0 : decode jb_G_stolen 0 = .ok (.iload_n 1, 1) := by decide +kernel
theorem jd_G_stolen_1 : decode jb_G_stolen 1 = .ok (.iconst 0, 1) := by decide +kernel
theorem jd_G_stolen_2 : decode jb_G_stolen 2 = .ok (.aload_n 0, 1) := by decide +kernel
theorem jd_G_stolen_3 : decode jb_G_stolen 3 = .ok (.getfield 80, 3) := by decide +kernel
theorem jd_G_stolen_6 : decode jb_G_stolen 6 = .ok (.invokestatic 92, 3) := by decide +kernel
theorem jd_G_stolen_9 : decode jb_G_stolen 9 = .ok (.ifCond .eq 14, 3) := by decide +kernel
theorem jd_G_stolen_12 : decode jb_G_stolen 12 = .ok (.aload_n 0, 1) := by decide +kernel
theorem jd_G_stolen_13 : decode jb_G_stolen 13 = .ok (.getfield 10, 3) := by decide +kernel
theorem jd_G_stolen_16 : decode jb_G_stolen 16 = .ok (.iload_n 2, 1) := by decide +kernel
theorem jd_G_stolen_17 : decode jb_G_stolen 17 = .ok (.invokevirtual 103, 3) := by decide +kernel
theorem jd_G_stolen_20 : decode jb_G_stolen 20 = .ok (.ifCond .ne 5, 3) := by decide +kernel
theorem jd_G_stolen_23 : decode jb_G_stolen 23 = .ok (.iconst (-1), 1) := by decide +kernel
theorem jd_G_stolen_24 : decode jb_G_stolen 24 = .ok (.ireturn, 1) := by decide +kernel
theorem jd_G_stolen_25 : decode jb_G_stolen 25 = .ok (.aload_n 0, 1) := by decide +kernel
theorem jd_G_stolen_26 : decode jb_G_stolen 26 = .ok (.getfield 37, 3) := by decide +kernel
theorem jd_G_stolen_29 : decode jb_G_stolen 29 = .ok (.getfield 300, 3) := by decide +kernel
theorem jd_G_stolen_32 : decode jb_G_stolen 32 = .ok (.bipush 20, 2) := by decide +kernel
theorem jd_G_stolen_34 : decode jb_G_stolen 34 = .ok (.if_icmp .lt 8, 3) := by decide +kernel
theorem jd_G_stolen_37 : decode jb_G_stolen 37 = .ok (.bipush (-3), 2) := by decide +kernel
theorem jd_G_stolen_39 : decode jb_G_stolen 39 = .ok (.goto 12, 3) := by decide +kernel
theorem jd_G_stolen_42 : decode jb_G_stolen 42 = .ok (.aload_n 0, 1) := by decide +kernel
theorem jd_G_stolen_43 : decode jb_G_stolen 43 = .ok (.getfield 37, 3) := by decide +kernel
theorem jd_G_stolen_46 : decode jb_G_stolen 46 = .ok (.iload_n 1, 1) := by decide +kernel
theorem jd_G_stolen_47 : decode jb_G_stolen 47 = .ok (.iload_n 2, 1) := by decide +kernel
theorem jd_G_stolen_48 : decode jb_G_stolen 48 = .ok (.invokevirtual 303, 3) := by decide +kernel
theorem jd_G_stolen_51 : decode jb_G_stolen 51 = .ok (.ireturn, 1) := by decide +kernel
def f_G_stolen (F : Nat) (x1 : Int32) (x2 : Int32) (I : j_M) : Option (Int32 × j_M) := j_bd (f_G_within F x1 0 (I 0 11) I) (fun v1 I2 => (if v1 = 0 then some ((-1), I2) else j_bd (f_Gr_has F x2 I2) (fun v3 I4 => (if v3 = 0 then some ((-1), I4) else (if (I4 143 6) < 20 then j_bd (f_Wa_tell F x1 x2 I4) (fun v5 I6 => some (v5, I6)) else some ((-3), I4))))))
set_option maxRecDepth 100000 in
set_option maxHeartbeats 4000000 in
theorem k_G_stolen {l : Launch} {g : j_G} {b n : Nat} {P : j_R} {F : Nat} (hF : j_Fx 0 260 P) (hn : 260 ≤ n) {x1 : Int32} {x2 : Int32} {I : j_M} {r : Int32 × j_M}  (h : f_G_stolen F x1 x2 I = some r) : j_Met l g b n P 1 jy_G_stolen jb_G_stolen 3 (some .int) [.ref (b + 0), .int x1, .int x2] I r.2 (some (.int r.1)) := by
  unfold f_G_stolen at h
  refine j_enter (plainFor_of_name (by decide)) (Nat.le_of_ble_eq_true rfl) [some (.ref (b + 0)), some (.int x1), some (.int x2)] rfl ?_
  intro p e R s m args below meth c X0 hnm hRc hRs
  have X : j_X p R s m args meth c g b 1 jb_G_stolen 3 "PleasureGarden" (some .int) := X0
  clear X0
  refine j_iload_n X jd_G_stolen_0 rfl rfl ?_
  refine j_iconst (v := 0) X jd_G_stolen_1 (by decide) ?_
  refine j_aload_n X jd_G_stolen_2 rfl rfl ?_
  refine j_get X jf_G_80 jk_0_11 js_0 (j_lt rfl hn) jd_G_stolen_3 ?_
  refine j_callSi (As := [.int x1, .int 0, .int (I 0 11)]) (st := []) X h ⟨jqc_G_within, jqs_G_within, jqn_G⟩ jlm_G_92 jh_G_within.2 rfl (by decide) (by decide) (Nat.le_of_ble_eq_true rfl) ⟨Nat.zero_le _, Nat.zero_le _⟩ (fun v0 I0 h => k_G_within (r := (v0, I0)) hF hn h) jd_G_stolen_6 rfl (fun v1 I2 h => ?_)
  refine j_if_eq (tgt := 23) X jd_G_stolen_9 rfl h (fun h => ?_) (fun h => ?_)
  · refine j_iconst (v := (-1)) X jd_G_stolen_23 (by decide) ?_
    exact j_iret X rfl jd_G_stolen_24 h
  · refine j_aload_n X jd_G_stolen_12 rfl rfl ?_
    refine j_getr X jf_G_10 jk_0_0 js_0 (j_lt rfl hn) (jp_0_0 hF) jd_G_stolen_13 ?_
    refine j_iload_n X jd_G_stolen_16 rfl rfl ?_
    refine j_callVi (As := [.int x2]) (st := []) (c0 := 1) X h jc_Gr js_1 (j_lt rfl hn) ⟨jqc_Gr_has, jqi_Gr_has, jqv_Gr_has, jqn_Gr⟩ jlm_G_103 jh_Gr_has rfl (by decide) (by decide) (Nat.le_of_ble_eq_true rfl) ⟨Nat.zero_le _, Nat.zero_le _⟩ (fun v0 I0 h => k_Gr_has (r := (v0, I0)) hF.gr (j_le hn) h) jd_G_stolen_17 rfl (fun v3 I4 h => ?_)
    refine j_if_ne (tgt := 25) X jd_G_stolen_20 rfl h (fun h => ?_) (fun h => ?_)
    · refine j_iconst (v := (-1)) X jd_G_stolen_23 (by decide) ?_
      exact j_iret X rfl jd_G_stolen_24 h
    · refine j_aload_n X jd_G_stolen_25 rfl rfl ?_
      refine j_getr X jf_G_37 jk_0_4 js_0 (j_lt rfl hn) (jp_0_4 hF) jd_G_stolen_26 ?_
      refine j_get X jf_G_300 jk_5_6 js_143 (j_lt rfl hn) jd_G_stolen_29 ?_
      refine j_bipush (v := 20) X jd_G_stolen_32 (by decide) ?_
      refine j_icmp_lt (tgt := 42) X jd_G_stolen_34 rfl h (fun h => ?_) (fun h => ?_)
      · refine j_aload_n X jd_G_stolen_42 rfl rfl ?_
        refine j_getr X jf_G_37 jk_0_4 js_0 (j_lt rfl hn) (jp_0_4 hF) jd_G_stolen_43 ?_
        refine j_iload_n X jd_G_stolen_46 rfl rfl ?_
        refine j_iload_n X jd_G_stolen_47 rfl rfl ?_
        refine j_callVi (As := [.int x1, .int x2]) (st := []) (c0 := 143) X h jc_Wa js_143 (j_lt rfl hn) ⟨jqc_Wa_tell, jqi_Wa_tell, jqv_Wa_tell, jqn_Wa⟩ jlm_G_303 jh_Wa_tell rfl (by decide) (by decide) (Nat.le_of_ble_eq_true rfl) ⟨Nat.zero_le _, Nat.zero_le _⟩ (fun v0 I0 h => k_Wa_tell (r := (v0, I0)) hF hn h) jd_G_stolen_48 rfl (fun v5 I6 h => ?_)
        exact j_iret X rfl jd_G_stolen_51 h
      · refine j_bipush (v := (-3)) X jd_G_stolen_37 (by decide) ?_
        refine j_goto (tgt := 51) X jd_G_stolen_39 rfl ?_
        exact j_iret X rfl jd_G_stolen_51 h
-- PleasureGarden.settle(LPleasureGarden$Party;I)V
theorem jd_G_settle_0 : decode jb_G_settle 0 = .ok (.aload_n 1, 1) := by decide +kernel
theorem jd_G_settle_1 : decode jb_G_settle 1 = .ok (.iconst 0, 1) := by decide +kernel
theorem jd_G_settle_2 : decode jb_G_settle 2 = .ok (.putfield 152, 3) := by decide +kernel
theorem jd_G_settle_5 : decode jb_G_settle 5 = .ok (.aload_n 1, 1) := by decide +kernel
theorem jd_G_settle_6 : decode jb_G_settle 6 = .ok (.iload_n 2, 1) := by decide +kernel
theorem jd_G_settle_7 : decode jb_G_settle 7 = .ok (.putfield 155, 3) := by decide +kernel
theorem jd_G_settle_10 : decode jb_G_settle 10 = .ok (.aload_n 1, 1) := by decide +kernel
theorem jd_G_settle_11 : decode jb_G_settle 11 = .ok (.iconst (-1), 1) := by decide +kernel
theorem jd_G_settle_12 : decode jb_G_settle 12 = .ok (.putfield 317, 3) := by decide +kernel
theorem jd_G_settle_15 : decode jb_G_settle 15 = .ok (.aload_n 1, 1) := by decide +kernel
theorem jd_G_settle_16 : decode jb_G_settle 16 = .ok (.aload_n 0, 1) := by decide +kernel
theorem jd_G_settle_17 : decode jb_G_settle 17 = .ok (.getfield 37, 3) := by decide +kernel
theorem jd_G_settle_20 : decode jb_G_settle 20 = .ok (.aload_n 1, 1) := by decide +kernel
theorem jd_G_settle_21 : decode jb_G_settle 21 = .ok (.getfield 144, 3) := by decide +kernel
theorem jd_G_settle_24 : decode jb_G_settle 24 = .ok (.iload_n 2, 1) := by decide +kernel
theorem jd_G_settle_25 : decode jb_G_settle 25 = .ok (.invokevirtual 320, 3) := by decide +kernel
theorem jd_G_settle_28 : decode jb_G_settle 28 = .ok (.putfield 323, 3) := by decide +kernel
theorem jd_G_settle_31 : decode jb_G_settle 31 = .ok (.return_, 1) := by decide +kernel
def f_G_settle (F : Nat) (x1 : Nat) (x2 : Int32) (I : j_M) : Option (Int32 × j_M) := j_let (j_wr I (43 + x1) 3 0) (fun I1 => j_let (j_wr I1 (43 + x1) 4 x2) (fun I2 => j_let (j_wr I2 (43 + x1) 5 (-1)) (fun I3 => j_bd (f_Wa_openStay F (I3 (43 + x1) 0) x2 I3) (fun v4 I5 => j_let (j_wr I5 (43 + x1) 11 v4) (fun I6 => some (0, I6))))))
set_option maxRecDepth 100000 in
set_option maxHeartbeats 4000000 in
theorem k_G_settle {l : Launch} {g : j_G} {b n : Nat} {P : j_R} {F : Nat} (hF : j_Fx 0 260 P) (hn : 260 ≤ n) {x1 : Nat} {x2 : Int32} {I : j_M} {r : Int32 × j_M} (hx1 : x1 < 100) (h : f_G_settle F x1 x2 I = some r) : j_Met l g b n P 1 jy_G_settle jb_G_settle 3 none [.ref (b + 0), .ref (b + (43 + x1)), .int x2] I r.2 none := by
  unfold f_G_settle at h
  refine j_enter (plainFor_of_name (by decide)) (Nat.le_of_ble_eq_true rfl) [some (.ref (b + 0)), some (.ref (b + (43 + x1))), some (.int x2)] rfl ?_
  intro p e R s m args below meth c X0 hnm hRc hRs
  have X : j_X p R s m args meth c g b 1 jb_G_settle 3 "PleasureGarden" none := X0
  clear X0
  refine j_aload_n X jd_G_settle_0 rfl rfl ?_
  refine j_iconst (v := 0) X jd_G_settle_1 (by decide) ?_
  refine j_puti X jt_Pa jto_Pa jn_Pa jf_G_152 jk_4_3 (jsp_43 hx1) (j_ltq hx1 rfl hn) (Or.inl rfl) rfl jd_G_settle_2 ?_
  refine j_mem h (fun I1 h => ?_)
  refine j_aload_n X jd_G_settle_5 rfl rfl ?_
  refine j_iload_n X jd_G_settle_6 rfl rfl ?_
  refine j_puti X jt_Pa jto_Pa jn_Pa jf_G_155 jk_4_4 (jsp_43 hx1) (j_ltq hx1 rfl hn) (Or.inl rfl) rfl jd_G_settle_7 ?_
  refine j_mem h (fun I2 h => ?_)
  refine j_aload_n X jd_G_settle_10 rfl rfl ?_
  refine j_iconst (v := (-1)) X jd_G_settle_11 (by decide) ?_
  refine j_puti X jt_Pa jto_Pa jn_Pa jf_G_317 jk_4_5 (jsp_43 hx1) (j_ltq hx1 rfl hn) (Or.inl rfl) rfl jd_G_settle_12 ?_
  refine j_mem h (fun I3 h => ?_)
  refine j_aload_n X jd_G_settle_15 rfl rfl ?_
  refine j_aload_n X jd_G_settle_16 rfl rfl ?_
  refine j_getr X jf_G_37 jk_0_4 js_0 (j_lt rfl hn) (jp_0_4 hF) jd_G_settle_17 ?_
  refine j_aload_n X jd_G_settle_20 rfl rfl ?_
  refine j_get X jf_G_144 jk_4_0 (jsp_43 hx1) (j_ltq hx1 rfl hn) jd_G_settle_21 ?_
  refine j_iload_n X jd_G_settle_24 rfl rfl ?_
  refine j_callVi (As := [.int (I3 (43 + x1) 0), .int x2]) (st := [.ref (b + (43 + x1))]) (c0 := 143) X h jc_Wa js_143 (j_lt rfl hn) ⟨jqc_Wa_openStay, jqi_Wa_openStay, jqv_Wa_openStay, jqn_Wa⟩ jlm_G_320 jh_Wa_openStay rfl (by decide) (by decide) (Nat.le_of_ble_eq_true rfl) ⟨Nat.zero_le _, Nat.zero_le _⟩ (fun v0 I0 h => k_Wa_openStay (r := (v0, I0)) hF hn h) jd_G_settle_25 rfl (fun v4 I5 h => ?_)
  refine j_puti X jt_Pa jto_Pa jn_Pa jf_G_323 jk_4_11 (jsp_43 hx1) (j_ltq hx1 rfl hn) (Or.inl rfl) rfl jd_G_settle_28 ?_
  refine j_mem h (fun I6 h => ?_)
  exact j_vret X rfl jd_G_settle_31 h
-- PleasureGarden.overcrowding()I
theorem jd_G_overcrowding_0 : decode jb_G_overcrowding 0 = .ok (.iconst 0, 1) := by decide +kernel
theorem jd_G_overcrowding_1 : decode jb_G_overcrowding 1 = .ok (.istore_n 1, 1) := by decide +kernel
theorem jd_G_overcrowding_2 : decode jb_G_overcrowding 2 = .ok (.iconst 0, 1) := by decide +kernel
theorem jd_G_overcrowding_3 : decode jb_G_overcrowding 3 = .ok (.istore_n 2, 1) := by decide +kernel
theorem jd_G_overcrowding_4 : decode jb_G_overcrowding 4 = .ok (.iload_n 2, 1) := by decide +kernel
theorem jd_G_overcrowding_5 : decode jb_G_overcrowding 5 = .ok (.aload_n 0, 1) := by decide +kernel
theorem jd_G_overcrowding_6 : decode jb_G_overcrowding 6 = .ok (.getfield 10, 3) := by decide +kernel
theorem jd_G_overcrowding_9 : decode jb_G_overcrowding 9 = .ok (.getfield 96, 3) := by decide +kernel
theorem jd_G_overcrowding_12 : decode jb_G_overcrowding 12 = .ok (.if_icmp .ge 34, 3) := by decide +kernel
theorem jd_G_overcrowding_15 : decode jb_G_overcrowding 15 = .ok (.iload_n 1, 1) := by decide +kernel
theorem jd_G_overcrowding_16 : decode jb_G_overcrowding 16 = .ok (.iconst 0, 1) := by decide +kernel
theorem jd_G_overcrowding_17 : decode jb_G_overcrowding 17 = .ok (.aload_n 0, 1) := by decide +kernel
theorem jd_G_overcrowding_18 : decode jb_G_overcrowding 18 = .ok (.getfield 30, 3) := by decide +kernel
theorem jd_G_overcrowding_21 : decode jb_G_overcrowding 21 = .ok (.iload_n 2, 1) := by decide +kernel
theorem jd_G_overcrowding_22 : decode jb_G_overcrowding 22 = .ok (.invokevirtual 170, 3) := by decide +kernel
theorem jd_G_overcrowding_25 : decode jb_G_overcrowding 25 = .ok (.aload_n 0, 1) := by decide +kernel
theorem jd_G_overcrowding_26 : decode jb_G_overcrowding 26 = .ok (.getfield 10, 3) := by decide +kernel
theorem jd_G_overcrowding_29 : decode jb_G_overcrowding 29 = .ok (.getfield 358, 3) := by decide +kernel
theorem jd_G_overcrowding_32 : decode jb_G_overcrowding 32 = .ok (.iload_n 2, 1) := by decide +kernel
theorem jd_G_overcrowding_33 : decode jb_G_overcrowding 33 = .ok (.iaload, 1) := by decide +kernel
theorem jd_G_overcrowding_34 : decode jb_G_overcrowding 34 = .ok (.isub, 1) := by decide +kernel
theorem jd_G_overcrowding_35 : decode jb_G_overcrowding 35 = .ok (.invokestatic 361, 3) := by decide +kernel
theorem jd_G_overcrowding_38 : decode jb_G_overcrowding 38 = .ok (.iadd, 1) := by decide +kernel
theorem jd_G_overcrowding_39 : decode jb_G_overcrowding 39 = .ok (.istore_n 1, 1) := by decide +kernel
theorem jd_G_overcrowding_40 : decode jb_G_overcrowding 40 = .ok (.iinc 2 1, 3) := by decide +kernel
theorem jd_G_overcrowding_43 : decode jb_G_overcrowding 43 = .ok (.goto (-39), 3) := by decide +kernel
theorem jd_G_overcrowding_46 : decode jb_G_overcrowding 46 = .ok (.iload_n 1, 1) := by decide +kernel
theorem jd_G_overcrowding_47 : decode jb_G_overcrowding 47 = .ok (.ireturn, 1) := by decide +kernel
def f_G_overcrowding_4b (F : Nat) (kb4 : Int32 → Int32 → j_M → Option (Int32 × j_M)) (x1 : Int32) (x2 : Int32) (I : j_M) : Option (Int32 × j_M) := (if (I 1 0) ≤ x2 then some (x1, I) else j_bd (f_Gu_headsAt F x2 I) (fun v1 I2 => (if j_ok x2 16 = true then j_let (if 0 < (v1 - (I2 2 (j_ix x2))) then (v1 - (I2 2 (j_ix x2))) else 0) (fun v3 => j_let (x1 + v3) (fun v4 => j_let (x2 + 1) (fun v5 => kb4 v4 v5 I2))) else none)))
def f_G_overcrowding_4 (F : Nat)  (x1 : Int32) (x2 : Int32) (I : j_M) : Option (Int32 × j_M) := j_it (fun (again : Int32 × Int32 × j_M → Option (Int32 × j_M)) (q : Int32 × Int32 × j_M) => f_G_overcrowding_4b F  (fun x1 x2 I => again (x1, x2, I))  q.1 q.2.1 q.2.2) F (x1, x2, I)
def f_G_overcrowding (F : Nat)  (I : j_M) : Option (Int32 × j_M) := f_G_overcrowding_4 F 0 0 I
set_option maxRecDepth 100000 in
set_option maxHeartbeats 4000000 in
theorem k_G_overcrowding_4b {p : Program} {l : Launch} {e : Env} {R : Room} {s : State} {m : MethodId} {args : Array Value} {below : List Frame} {meth : Method} {c : Code} {g : j_G} {b n : Nat} {P : j_R} {F : Nat} (hF : j_Fx 0 260 P) (hn : 260 ≤ n) (X : j_X p R s m args meth c g b 1 jb_G_overcrowding 3 "PleasureGarden" (some .int)) {kb4 : Int32 → Int32 → j_M → Option (Int32 × j_M)} (hkb4 : ∀ (x1 : Int32) (x2 : Int32) (I : j_M) (r : Int32 × j_M), kb4 x1 x2 I = some r → j_W p l e R s m args below meth c 3 g b n 0 0 (j_Qi g b n P below args s r) I P 4 [some (.ref (b + 0)), some (.int x1), some (.int x2)] []) {x1 : Int32} {x2 : Int32} {I : j_M} {r : Int32 × j_M}  (h : f_G_overcrowding_4b F kb4 x1 x2 I = some r) : j_W p l e R s m args below meth c 3 g b n 0 0 (j_Qi g b n P below args s r) I P 4 [some (.ref (b + 0)), some (.int x1), some (.int x2)] [] := by
  unfold f_G_overcrowding_4b at h
  refine j_iload_n X jd_G_overcrowding_4 rfl rfl ?_
  refine j_aload_n X jd_G_overcrowding_5 rfl rfl ?_
  refine j_getr X jf_G_10 jk_0_0 js_0 (j_lt rfl hn) (jp_0_0 hF) jd_G_overcrowding_6 ?_
  refine j_get X jf_G_96 jk_1_0 js_1 (j_lt rfl hn) jd_G_overcrowding_9 ?_
  refine j_icmp_ge (tgt := 46) X jd_G_overcrowding_12 rfl h (fun h => ?_) (fun h => ?_)
  · refine j_iload_n X jd_G_overcrowding_46 rfl rfl ?_
    exact j_iret X rfl jd_G_overcrowding_47 h
  · refine j_iload_n X jd_G_overcrowding_15 rfl rfl ?_
    refine j_iconst (v := 0) X jd_G_overcrowding_16 (by decide) ?_
    refine j_aload_n X jd_G_overcrowding_17 rfl rfl ?_
    refine j_getr X jf_G_30 jk_0_3 js_0 (j_lt rfl hn) (jp_0_3 hF) jd_G_overcrowding_18 ?_
    refine j_iload_n X jd_G_overcrowding_21 rfl rfl ?_
    refine j_callVi (As := [.int x2]) (st := [.int 0, .int x1]) (c0 := 41) X h jc_Gu js_41 (j_lt rfl hn) ⟨jqc_Gu_headsAt, jqi_Gu_headsAt, jqv_Gu_headsAt, jqn_Gu⟩ jlm_G_170 jh_Gu_headsAt rfl (by decide) (by decide) (Nat.le_of_ble_eq_true rfl) ⟨Nat.zero_le _, Nat.zero_le _⟩ (fun v0 I0 h => k_Gu_headsAt (r := (v0, I0)) hF hn h) jd_G_overcrowding_22 rfl (fun v1 I2 h => ?_)
    refine j_aload_n X jd_G_overcrowding_25 rfl rfl ?_
    refine j_getr X jf_G_10 jk_0_0 js_0 (j_lt rfl hn) (jp_0_0 hF) jd_G_overcrowding_26 ?_
    refine j_getr X jf_G_358 jk_1_1 js_1 (j_lt rfl hn) (jp_1_1 hF.gr) jd_G_overcrowding_29 ?_
    refine j_iload_n X jd_G_overcrowding_32 rfl rfl ?_
    refine j_iald X js_2 (j_lt rfl hn) jd_G_overcrowding_33 h (fun _ h => ?_)
    refine j_isub X jd_G_overcrowding_34 ?_
    refine j_mmax (st := [.int x1]) X jlm_G_361 (by decide) (Nat.le_of_ble_eq_true rfl) ⟨Nat.zero_le _, Nat.zero_le _⟩ jd_G_overcrowding_35 ?_
    refine j_nm h (fun v3 h => ?_)
    refine j_iadd X jd_G_overcrowding_38 ?_
    refine j_nm h (fun v4 h => ?_)
    refine j_istore_n (lv' := [some (.ref (b + 0)), some (.int v4), some (.int x2)]) X jd_G_overcrowding_39 rfl (by decide) rfl ?_
    obtain ⟨v5, ev5, h⟩ := j_ex h
    refine j_iinc (v := v5) (lv' := [some (.ref (b + 0)), some (.int v4), some (.int v5)]) X jd_G_overcrowding_40 rfl (by rw [ev5]; rfl) (by decide) rfl ?_
    refine j_goto (tgt := 4) X jd_G_overcrowding_43 rfl ?_
    exact hkb4 _ _ _ _ h
set_option maxRecDepth 100000 in
set_option maxHeartbeats 4000000 in
theorem k_G_overcrowding_4 {p : Program} {l : Launch} {e : Env} {R : Room} {s : State} {m : MethodId} {args : Array Value} {below : List Frame} {meth : Method} {c : Code} {g : j_G} {b n : Nat} {P : j_R} {F : Nat} (hF : j_Fx 0 260 P) (hn : 260 ≤ n) (X : j_X p R s m args meth c g b 1 jb_G_overcrowding 3 "PleasureGarden" (some .int))  {x1 : Int32} {x2 : Int32} {I : j_M} {r : Int32 × j_M} (h : f_G_overcrowding_4 F x1 x2 I = some r) : j_W p l e R s m args below meth c 3 g b n 0 0 (j_Qi g b n P below args s r) I P 4 [some (.ref (b + 0)), some (.int x1), some (.int x2)] [] := by
  refine j_loop (G := fun (q : Int32 × Int32 × j_M) (r : Int32 × j_M) => j_W p l e R s m args below meth c 3 g b n 0 0 (j_Qi g b n P below args s r) q.2.2 P 4 [some (.ref (b + 0)), some (.int (q.1)), some (.int (q.2.1))] []) ?_ F (x1, x2, I) r h
  intro again hrec0 q r h
  exact k_G_overcrowding_4b hF hn X (fun x1 x2 I r h => hrec0 (x1, x2, I) r h)  h
set_option maxRecDepth 100000 in
set_option maxHeartbeats 4000000 in
theorem k_G_overcrowding {l : Launch} {g : j_G} {b n : Nat} {P : j_R} {F : Nat} (hF : j_Fx 0 260 P) (hn : 260 ≤ n)  {I : j_M} {r : Int32 × j_M}  (h : f_G_overcrowding F I = some r) : j_Met l g b n P 1 jy_G_overcrowding jb_G_overcrowding 3 (some .int) [.ref (b + 0)] I r.2 (some (.int r.1)) := by
  unfold f_G_overcrowding at h
  refine j_enter (plainFor_of_name (by decide)) (Nat.le_of_ble_eq_true rfl) [some (.ref (b + 0)), none, none] rfl ?_
  intro p e R s m args below meth c X0 hnm hRc hRs
  have X : j_X p R s m args meth c g b 1 jb_G_overcrowding 3 "PleasureGarden" (some .int) := X0
  clear X0
  refine j_iconst (v := 0) X jd_G_overcrowding_0 (by decide) ?_
  refine j_istore_n (lv' := [some (.ref (b + 0)), some (.int 0), none]) X jd_G_overcrowding_1 rfl (by decide) rfl ?_
  refine j_iconst (v := 0) X jd_G_overcrowding_2 (by decide) ?_
  refine j_istore_n (lv' := [some (.ref (b + 0)), some (.int 0), some (.int 0)]) X jd_G_overcrowding_3 rfl (by decide) rfl ?_
  exact k_G_overcrowding_4 hF hn X h
-- PleasureGarden.beginNight()V
theorem jd_G_beginNight_0 : decode jb_G_beginNight 0 = .ok (.aload_n 0, 1) := by decide +kernel
theorem jd_G_beginNight_1 : decode jb_G_beginNight 1 = .ok (.iconst 0, 1) := by decide +kernel
theorem jd_G_beginNight_2 : decode jb_G_beginNight 2 = .ok (.putfield 80, 3) := by decide +kernel
theorem jd_G_beginNight_5 : decode jb_G_beginNight 5 = .ok (.aload_n 0, 1) := by decide +kernel
theorem jd_G_beginNight_6 : decode jb_G_beginNight 6 = .ok (.iconst 0, 1) := by decide +kernel
theorem jd_G_beginNight_7 : decode jb_G_beginNight 7 = .ok (.putfield 86, 3) := by decide +kernel
theorem jd_G_beginNight_10 : decode jb_G_beginNight 10 = .ok (.aload_n 0, 1) := by decide +kernel
theorem jd_G_beginNight_11 : decode jb_G_beginNight 11 = .ok (.iconst 0, 1) := by decide +kernel
theorem jd_G_beginNight_12 : decode jb_G_beginNight 12 = .ok (.putfield 89, 3) := by decide +kernel
theorem jd_G_beginNight_15 : decode jb_G_beginNight 15 = .ok (.aload_n 0, 1) := by decide +kernel
theorem jd_G_beginNight_16 : decode jb_G_beginNight 16 = .ok (.getfield 19, 3) := by decide +kernel
theorem jd_G_beginNight_19 : decode jb_G_beginNight 19 = .ok (.invokevirtual 379, 3) := by decide +kernel
theorem jd_G_beginNight_22 : decode jb_G_beginNight 22 = .ok (.aload_n 0, 1) := by decide +kernel
theorem jd_G_beginNight_23 : decode jb_G_beginNight 23 = .ok (.getfield 30, 3) := by decide +kernel
theorem jd_G_beginNight_26 : decode jb_G_beginNight 26 = .ok (.iconst 0, 1) := by decide +kernel
theorem jd_G_beginNight_27 : decode jb_G_beginNight 27 = .ok (.putfield 124, 3) := by decide +kernel
theorem jd_G_beginNight_30 : decode jb_G_beginNight 30 = .ok (.aload_n 0, 1) := by decide +kernel
theorem jd_G_beginNight_31 : decode jb_G_beginNight 31 = .ok (.getfield 58, 3) := by decide +kernel
theorem jd_G_beginNight_34 : decode jb_G_beginNight 34 = .ok (.iconst 0, 1) := by decide +kernel
theorem jd_G_beginNight_35 : decode jb_G_beginNight 35 = .ok (.putfield 253, 3) := by decide +kernel
theorem jd_G_beginNight_38 : decode jb_G_beginNight 38 = .ok (.aload_n 0, 1) := by decide +kernel
theorem jd_G_beginNight_39 : decode jb_G_beginNight 39 = .ok (.getfield 44, 3) := by decide +kernel
theorem jd_G_beginNight_42 : decode jb_G_beginNight 42 = .ok (.invokevirtual 382, 3) := by decide +kernel
theorem jd_G_beginNight_45 : decode jb_G_beginNight 45 = .ok (.aload_n 0, 1) := by decide +kernel
theorem jd_G_beginNight_46 : decode jb_G_beginNight 46 = .ok (.getfield 37, 3) := by decide +kernel
theorem jd_G_beginNight_49 : decode jb_G_beginNight 49 = .ok (.invokevirtual 385, 3) := by decide +kernel
theorem jd_G_beginNight_52 : decode jb_G_beginNight 52 = .ok (.return_, 1) := by decide +kernel
def f_G_beginNight (F : Nat)  (I : j_M) : Option (Int32 × j_M) := j_let (j_wr I 0 11 0) (fun I1 => j_let (j_wr I1 0 13 0) (fun I2 => j_let (j_wr I2 0 14 0) (fun I3 => j_bd (f_Sk_clear F I3) (fun v4 I5 => j_let (j_wr I5 41 0 0) (fun I6 => j_let (j_wr I6 198 4 0) (fun I7 => j_bd (f_La_putOut F I7) (fun v8 I9 => j_bd (f_Wa_clear F I9) (fun v10 I11 => some (0, I11)))))))))
set_option maxRecDepth 100000 in
set_option maxHeartbeats 4000000 in
theorem k_G_beginNight {l : Launch} {g : j_G} {b n : Nat} {P : j_R} {F : Nat} (hF : j_Fx 0 260 P) (hn : 260 ≤ n)  {I : j_M} {r : Int32 × j_M}  (h : f_G_beginNight F I = some r) : j_Met l g b n P 1 jy_G_beginNight jb_G_beginNight 1 none [.ref (b + 0)] I r.2 none := by
  unfold f_G_beginNight at h
  refine j_enter (plainFor_of_name (by decide)) (Nat.le_of_ble_eq_true rfl) [some (.ref (b + 0))] rfl ?_
  intro p e R s m args below meth c X0 hnm hRc hRs
  have X : j_X p R s m args meth c g b 1 jb_G_beginNight 1 "PleasureGarden" none := X0
  clear X0
  refine j_aload_n X jd_G_beginNight_0 rfl rfl ?_
  refine j_iconst (v := 0) X jd_G_beginNight_1 (by decide) ?_
  refine j_puti X jt_G jto_G jn_G jf_G_80 jk_0_11 js_0 (j_lt rfl hn) (Or.inl rfl) rfl jd_G_beginNight_2 ?_
  refine j_mem h (fun I1 h => ?_)
  refine j_aload_n X jd_G_beginNight_5 rfl rfl ?_
  refine j_iconst (v := 0) X jd_G_beginNight_6 (by decide) ?_
  refine j_puti X jt_G jto_G jn_G jf_G_86 jk_0_13 js_0 (j_lt rfl hn) (Or.inl rfl) rfl jd_G_beginNight_7 ?_
  refine j_mem h (fun I2 h => ?_)
  refine j_aload_n X jd_G_beginNight_10 rfl rfl ?_
  refine j_iconst (v := 0) X jd_G_beginNight_11 (by decide) ?_
  refine j_puti X jt_G jto_G jn_G jf_G_89 jk_0_14 js_0 (j_lt rfl hn) (Or.inl rfl) rfl jd_G_beginNight_12 ?_
  refine j_mem h (fun I3 h => ?_)
  refine j_aload_n X jd_G_beginNight_15 rfl rfl ?_
  refine j_getr X jf_G_19 jk_0_1 js_0 (j_lt rfl hn) (jp_0_1 hF) jd_G_beginNight_16 ?_
  refine j_callVv (As := []) (st := []) (c0 := 38) X h jc_Sk js_38 (j_lt rfl hn) ⟨jqc_Sk_clear, jqi_Sk_clear, jqv_Sk_clear, jqn_Sk⟩ jlm_G_379 jh_Sk_clear rfl (by decide) (by decide) (Nat.le_of_ble_eq_true rfl) ⟨Nat.zero_le _, Nat.zero_le _⟩ (fun v0 I0 h => k_Sk_clear (r := (v0, I0)) hF hn h) jd_G_beginNight_19 rfl (fun v4 I5 h => ?_)
  refine j_aload_n X jd_G_beginNight_22 rfl rfl ?_
  refine j_getr X jf_G_30 jk_0_3 js_0 (j_lt rfl hn) (jp_0_3 hF) jd_G_beginNight_23 ?_
  refine j_iconst (v := 0) X jd_G_beginNight_26 (by decide) ?_
  refine j_puti X jt_Gu jto_Gu jn_Gu jf_G_124 jk_3_0 js_41 (j_lt rfl hn) (Or.inl rfl) rfl jd_G_beginNight_27 ?_
  refine j_mem h (fun I6 h => ?_)
  refine j_aload_n X jd_G_beginNight_30 rfl rfl ?_
  refine j_getr X jf_G_58 jk_0_7 js_0 (j_lt rfl hn) (jp_0_7 hF) jd_G_beginNight_31 ?_
  refine j_iconst (v := 0) X jd_G_beginNight_34 (by decide) ?_
  refine j_puti X jt_Ki jto_Ki jn_Ki jf_G_253 jk_8_4 js_198 (j_lt rfl hn) (Or.inl rfl) rfl jd_G_beginNight_35 ?_
  refine j_mem h (fun I7 h => ?_)
  refine j_aload_n X jd_G_beginNight_38 rfl rfl ?_
  refine j_getr X jf_G_44 jk_0_5 js_0 (j_lt rfl hn) (jp_0_5 hF) jd_G_beginNight_39 ?_
  refine j_callVv (As := []) (st := []) (c0 := 150) X h jc_La js_150 (j_lt rfl hn) ⟨jqc_La_putOut, jqi_La_putOut, jqv_La_putOut, jqn_La⟩ jlm_G_382 jh_La_putOut rfl (by decide) (by decide) (Nat.le_of_ble_eq_true rfl) ⟨Nat.zero_le _, Nat.zero_le _⟩ (fun v0 I0 h => k_La_putOut (r := (v0, I0)) hF hn h) jd_G_beginNight_42 rfl (fun v8 I9 h => ?_)
  refine j_aload_n X jd_G_beginNight_45 rfl rfl ?_
  refine j_getr X jf_G_37 jk_0_4 js_0 (j_lt rfl hn) (jp_0_4 hF) jd_G_beginNight_46 ?_
  refine j_callVv (As := []) (st := []) (c0 := 143) X h jc_Wa js_143 (j_lt rfl hn) ⟨jqc_Wa_clear, jqi_Wa_clear, jqv_Wa_clear, jqn_Wa⟩ jlm_G_385 jh_Wa_clear rfl (by decide) (by decide) (Nat.le_of_ble_eq_true rfl) ⟨Nat.zero_le _, Nat.zero_le _⟩ (fun v0 I0 h => k_Wa_clear (r := (v0, I0)) hF hn h) jd_G_beginNight_49 rfl (fun v10 I11 h => ?_)
  exact j_vret X rfl jd_G_beginNight_52 h
-- PleasureGarden.way(II)I
theorem jd_G_way_0 : decode jb_G_way 0 = .ok (.aload_n 0, 1) := by decide +kernel
theorem jd_G_way_1 : decode jb_G_way 1 = .ok (.getfield 10, 3) := by decide +kernel
theorem jd_G_way_4 : decode jb_G_way 4 = .ok (.iload_n 1, 1) := by decide +kernel
theorem jd_G_way_5 : decode jb_G_way 5 = .ok (.invokevirtual 103, 3) := by decide +kernel
theorem jd_G_way_8 : decode jb_G_way 8 = .ok (.ifCond .eq 14, 3) := by decide +kernel
theorem jd_G_way_11 : decode jb_G_way 11 = .ok (.aload_n 0, 1) := by decide +kernel
theorem jd_G_way_12 : decode jb_G_way 12 = .ok (.getfield 10, 3) := by decide +kernel
theorem jd_G_way_15 : decode jb_G_way 15 = .ok (.iload_n 2, 1) := by decide +kernel
theorem jd_G_way_16 : decode jb_G_way 16 = .ok (.invokevirtual 103, 3) := by decide +kernel
theorem jd_G_way_19 : decode jb_G_way 19 = .ok (.ifCond .ne 5, 3) := by decide +kernel
theorem jd_G_way_22 : decode jb_G_way 22 = .ok (.iconst (-1), 1) := by decide +kernel
theorem jd_G_way_23 : decode jb_G_way 23 = .ok (.ireturn, 1) := by decide +kernel
theorem jd_G_way_24 : decode jb_G_way 24 = .ok (.aload_n 0, 1) := by decide +kernel
theorem jd_G_way_25 : decode jb_G_way 25 = .ok (.getfield 10, 3) := by decide +kernel
theorem jd_G_way_28 : decode jb_G_way 28 = .ok (.iload_n 1, 1) := by decide +kernel
theorem jd_G_way_29 : decode jb_G_way 29 = .ok (.iload_n 2, 1) := by decide +kernel
theorem jd_G_way_30 : decode jb_G_way 30 = .ok (.invokevirtual 111, 3) := by decide +kernel
theorem jd_G_way_33 : decode jb_G_way 33 = .ok (.istore_n 3, 1) := by decide +kernel
theorem jd_G_way_34 : decode jb_G_way 34 = .ok (.iload_n 3, 1) := by decide +kernel
theorem jd_G_way_35 : decode jb_G_way 35 = .ok (.ldc 115, 2) := by decide +kernel
theorem jd_G_way_37 : decode jb_G_way 37 = .ok (.if_icmp .lt 8, 3) := by decide +kernel
theorem jd_G_way_40 : decode jb_G_way 40 = .ok (.bipush (-4), 2) := by decide +kernel
theorem jd_G_way_42 : decode jb_G_way 42 = .ok (.goto 4, 3) := by decide +kernel
theorem jd_G_way_45 : decode jb_G_way 45 = .ok (.iload_n 3, 1) := by decide +kernel
theorem jd_G_way_46 : decode jb_G_way 46 = .ok (.ireturn, 1) := by decide +kernel
def f_G_way (F : Nat) (x1 : Int32) (x2 : Int32) (I : j_M) : Option (Int32 × j_M) := j_bd (f_Gr_has F x1 I) (fun v1 I2 => (if v1 = 0 then some ((-1), I2) else j_bd (f_Gr_has F x2 I2) (fun v3 I4 => (if v3 = 0 then some ((-1), I4) else j_bd (f_Gr_minutesBetween F x1 x2 I4) (fun v5 I6 => (if v5 < 1000000 then some (v5, I6) else some ((-4), I6)))))))
set_option maxRecDepth 100000 in
set_option maxHeartbeats 4000000 in
theorem k_G_way {l : Launch} {g : j_G} {b n : Nat} {P : j_R} {F : Nat} (hF : j_Fx 0 260 P) (hn : 260 ≤ n) {x1 : Int32} {x2 : Int32} {I : j_M} {r : Int32 × j_M}  (h : f_G_way F x1 x2 I = some r) : j_Met l g b n P 2 jy_G_way jb_G_way 4 (some .int) [.ref (b + 0), .int x1, .int x2] I r.2 (some (.int r.1)) := by
  unfold f_G_way at h
  refine j_enter (plainFor_of_name (by decide)) (Nat.le_of_ble_eq_true rfl) [some (.ref (b + 0)), some (.int x1), some (.int x2), none] rfl ?_
  intro p e R s m args below meth c X0 hnm hRc hRs
  have X : j_X p R s m args meth c g b 2 jb_G_way 4 "PleasureGarden" (some .int) := X0
  clear X0
  refine j_aload_n X jd_G_way_0 rfl rfl ?_
  refine j_getr X jf_G_10 jk_0_0 js_0 (j_lt rfl hn) (jp_0_0 hF) jd_G_way_1 ?_
  refine j_iload_n X jd_G_way_4 rfl rfl ?_
  refine j_callVi (As := [.int x1]) (st := []) (c0 := 1) X h jc_Gr js_1 (j_lt rfl hn) ⟨jqc_Gr_has, jqi_Gr_has, jqv_Gr_has, jqn_Gr⟩ jlm_G_103 jh_Gr_has rfl (by decide) (by decide) (Nat.le_of_ble_eq_true rfl) ⟨Nat.zero_le _, Nat.zero_le _⟩ (fun v0 I0 h => k_Gr_has (r := (v0, I0)) hF.gr (j_le hn) h) jd_G_way_5 rfl (fun v1 I2 h => ?_)
  refine j_if_eq (tgt := 22) X jd_G_way_8 rfl h (fun h => ?_) (fun h => ?_)
  · refine j_iconst (v := (-1)) X jd_G_way_22 (by decide) ?_
    exact j_iret X rfl jd_G_way_23 h
  · refine j_aload_n X jd_G_way_11 rfl rfl ?_
    refine j_getr X jf_G_10 jk_0_0 js_0 (j_lt rfl hn) (jp_0_0 hF) jd_G_way_12 ?_
    refine j_iload_n X jd_G_way_15 rfl rfl ?_
    refine j_callVi (As := [.int x2]) (st := []) (c0 := 1) X h jc_Gr js_1 (j_lt rfl hn) ⟨jqc_Gr_has, jqi_Gr_has, jqv_Gr_has, jqn_Gr⟩ jlm_G_103 jh_Gr_has rfl (by decide) (by decide) (Nat.le_of_ble_eq_true rfl) ⟨Nat.zero_le _, Nat.zero_le _⟩ (fun v0 I0 h => k_Gr_has (r := (v0, I0)) hF.gr (j_le hn) h) jd_G_way_16 rfl (fun v3 I4 h => ?_)
    refine j_if_ne (tgt := 24) X jd_G_way_19 rfl h (fun h => ?_) (fun h => ?_)
    · refine j_iconst (v := (-1)) X jd_G_way_22 (by decide) ?_
      exact j_iret X rfl jd_G_way_23 h
    · refine j_aload_n X jd_G_way_24 rfl rfl ?_
      refine j_getr X jf_G_10 jk_0_0 js_0 (j_lt rfl hn) (jp_0_0 hF) jd_G_way_25 ?_
      refine j_iload_n X jd_G_way_28 rfl rfl ?_
      refine j_iload_n X jd_G_way_29 rfl rfl ?_
      refine j_callVi (As := [.int x1, .int x2]) (st := []) (c0 := 1) X h jc_Gr js_1 (j_lt rfl hn) ⟨jqc_Gr_minutesBetween, jqi_Gr_minutesBetween, jqv_Gr_minutesBetween, jqn_Gr⟩ jlm_G_111 jh_Gr_minutesBetween rfl (by decide) (by decide) (Nat.le_of_ble_eq_true rfl) ⟨Nat.zero_le _, Nat.zero_le _⟩ (fun v0 I0 h => k_Gr_minutesBetween (r := (v0, I0)) hF.gr (j_le hn) h) jd_G_way_30 rfl (fun v5 I6 h => ?_)
      refine j_istore_n (lv' := [some (.ref (b + 0)), some (.int x1), some (.int x2), some (.int v5)]) X jd_G_way_33 rfl (by decide) rfl ?_
      refine j_iload_n X jd_G_way_34 rfl rfl ?_
      refine j_ldc (v := 1000000) X jlc_G_115 jd_G_way_35 ?_
      refine j_icmp_lt (tgt := 45) X jd_G_way_37 rfl h (fun h => ?_) (fun h => ?_)
      · refine j_iload_n X jd_G_way_45 rfl rfl ?_
        exact j_iret X rfl jd_G_way_46 h
      · refine j_bipush (v := (-4)) X jd_G_way_40 (by decide) ?_
        refine j_goto (tgt := 46) X jd_G_way_42 rfl ?_
        exact j_iret X rfl jd_G_way_46 h
-- PleasureGarden.fuse(III)I
theorem jd_G_fuse_0 : decode jb_G_fuse 0 = .ok (.aload_n 0, 1) := by decide +kernel
theorem jd_G_fuse_1 : decode jb_G_fuse 1 = .ok (.getfield 44, 3) := by decide +kernel
theorem jd_G_fuse_4 : decode jb_G_fuse 4 = .ok (.iload_n 1, 1) := by decide +kernel
theorem jd_G_fuse_5 : decode jb_G_fuse 5 = .ok (.invokevirtual 196, 3) := by decide +kernel
theorem jd_G_fuse_8 : decode jb_G_fuse 8 = .ok (.ifCond .eq 30, 3) := by decide +kernel
theorem jd_G_fuse_11 : decode jb_G_fuse 11 = .ok (.aload_n 0, 1) := by decide +kernel
theorem jd_G_fuse_12 : decode jb_G_fuse 12 = .ok (.getfield 44, 3) := by decide +kernel
theorem jd_G_fuse_15 : decode jb_G_fuse 15 = .ok (.iload_n 2, 1) := by decide +kernel
theorem jd_G_fuse_16 : decode jb_G_fuse 16 = .ok (.invokevirtual 196, 3) := by decide +kernel
theorem jd_G_fuse_19 : decode jb_G_fuse 19 = .ok (.ifCond .eq 19, 3) := by decide +kernel
theorem jd_G_fuse_22 : decode jb_G_fuse 22 = .ok (.iload_n 1, 1) := by decide +kernel
theorem jd_G_fuse_23 : decode jb_G_fuse 23 = .ok (.iload_n 2, 1) := by decide +kernel
theorem jd_G_fuse_24 : decode jb_G_fuse 24 = .ok (.if_icmp .eq 14, 3) := by decide +kernel
theorem jd_G_fuse_27 : decode jb_G_fuse 27 = .ok (.iload_n 3, 1) := by decide +kernel
theorem jd_G_fuse_28 : decode jb_G_fuse 28 = .ok (.iconst 1, 1) := by decide +kernel
theorem jd_G_fuse_29 : decode jb_G_fuse 29 = .ok (.sipush 999, 3) := by decide +kernel
theorem jd_G_fuse_32 : decode jb_G_fuse 32 = .ok (.invokestatic 92, 3) := by decide +kernel
theorem jd_G_fuse_35 : decode jb_G_fuse 35 = .ok (.ifCond .ne 5, 3) := by decide +kernel
theorem jd_G_fuse_38 : decode jb_G_fuse 38 = .ok (.iconst (-1), 1) := by decide +kernel
theorem jd_G_fuse_39 : decode jb_G_fuse 39 = .ok (.ireturn, 1) := by decide +kernel
theorem jd_G_fuse_40 : decode jb_G_fuse 40 = .ok (.aload_n 0, 1) := by decide +kernel
theorem jd_G_fuse_41 : decode jb_G_fuse 41 = .ok (.getfield 44, 3) := by decide +kernel
theorem jd_G_fuse_44 : decode jb_G_fuse 44 = .ok (.getfield 197, 3) := by decide +kernel
theorem jd_G_fuse_47 : decode jb_G_fuse 47 = .ok (.bipush 80, 2) := by decide +kernel
theorem jd_G_fuse_49 : decode jb_G_fuse 49 = .ok (.if_icmp .lt 8, 3) := by decide +kernel
theorem jd_G_fuse_52 : decode jb_G_fuse 52 = .ok (.bipush (-3), 2) := by decide +kernel
theorem jd_G_fuse_54 : decode jb_G_fuse 54 = .ok (.goto 13, 3) := by decide +kernel
theorem jd_G_fuse_57 : decode jb_G_fuse 57 = .ok (.aload_n 0, 1) := by decide +kernel
theorem jd_G_fuse_58 : decode jb_G_fuse 58 = .ok (.getfield 44, 3) := by decide +kernel
theorem jd_G_fuse_61 : decode jb_G_fuse 61 = .ok (.iload_n 1, 1) := by decide +kernel
theorem jd_G_fuse_62 : decode jb_G_fuse 62 = .ok (.iload_n 2, 1) := by decide +kernel
theorem jd_G_fuse_63 : decode jb_G_fuse 63 = .ok (.iload_n 3, 1) := by decide +kernel
theorem jd_G_fuse_64 : decode jb_G_fuse 64 = .ok (.invokevirtual 200, 3) := by decide +kernel
theorem jd_G_fuse_67 : decode jb_G_fuse 67 = .ok (.ireturn, 1) := by decide +kernel
def f_G_fuse (F : Nat) (x1 : Int32) (x2 : Int32) (x3 : Int32) (I : j_M) : Option (Int32 × j_M) := j_bd (f_La_has F x1 I) (fun v1 I2 => (if v1 = 0 then some ((-1), I2) else j_bd (f_La_has F x2 I2) (fun v3 I4 => (if v3 = 0 then some ((-1), I4) else (if x1 = x2 then some ((-1), I4) else j_bd (f_G_within F x3 1 999 I4) (fun v5 I6 => (if v5 = 0 then some ((-1), I6) else (if (I6 150 1) < 80 then j_bd (f_La_join F x1 x2 x3 I6) (fun v7 I8 => some (v7, I8)) else some ((-3), I6)))))))))
set_option maxRecDepth 100000 in
set_option maxHeartbeats 4000000 in
theorem k_G_fuse {l : Launch} {g : j_G} {b n : Nat} {P : j_R} {F : Nat} (hF : j_Fx 0 260 P) (hn : 260 ≤ n) {x1 : Int32} {x2 : Int32} {x3 : Int32} {I : j_M} {r : Int32 × j_M}  (h : f_G_fuse F x1 x2 x3 I = some r) : j_Met l g b n P 2 jy_G_fuse jb_G_fuse 4 (some .int) [.ref (b + 0), .int x1, .int x2, .int x3] I r.2 (some (.int r.1)) := by
  unfold f_G_fuse at h
  refine j_enter (plainFor_of_name (by decide)) (Nat.le_of_ble_eq_true rfl) [some (.ref (b + 0)), some (.int x1), some (.int x2), some (.int x3)] rfl ?_
  intro p e R s m args below meth c X0 hnm hRc hRs
  have X : j_X p R s m args meth c g b 2 jb_G_fuse 4 "PleasureGarden" (some .int) := X0
  clear X0
  refine j_aload_n X jd_G_fuse_0 rfl rfl ?_
  refine j_getr X jf_G_44 jk_0_5 js_0 (j_lt rfl hn) (jp_0_5 hF) jd_G_fuse_1 ?_
  refine j_iload_n X jd_G_fuse_4 rfl rfl ?_
  refine j_callVi (As := [.int x1]) (st := []) (c0 := 150) X h jc_La js_150 (j_lt rfl hn) ⟨jqc_La_has, jqi_La_has, jqv_La_has, jqn_La⟩ jlm_G_196 jh_La_has rfl (by decide) (by decide) (Nat.le_of_ble_eq_true rfl) ⟨Nat.zero_le _, Nat.zero_le _⟩ (fun v0 I0 h => k_La_has (r := (v0, I0)) hF hn h) jd_G_fuse_5 rfl (fun v1 I2 h => ?_)
  refine j_if_eq (tgt := 38) X jd_G_fuse_8 rfl h (fun h => ?_) (fun h => ?_)
  · refine j_iconst (v := (-1)) X jd_G_fuse_38 (by decide) ?_
    exact j_iret X rfl jd_G_fuse_39 h
  · refine j_aload_n X jd_G_fuse_11 rfl rfl ?_
    refine j_getr X jf_G_44 jk_0_5 js_0 (j_lt rfl hn) (jp_0_5 hF) jd_G_fuse_12 ?_
    refine j_iload_n X jd_G_fuse_15 rfl rfl ?_
    refine j_callVi (As := [.int x2]) (st := []) (c0 := 150) X h jc_La js_150 (j_lt rfl hn) ⟨jqc_La_has, jqi_La_has, jqv_La_has, jqn_La⟩ jlm_G_196 jh_La_has rfl (by decide) (by decide) (Nat.le_of_ble_eq_true rfl) ⟨Nat.zero_le _, Nat.zero_le _⟩ (fun v0 I0 h => k_La_has (r := (v0, I0)) hF hn h) jd_G_fuse_16 rfl (fun v3 I4 h => ?_)
    refine j_if_eq (tgt := 38) X jd_G_fuse_19 rfl h (fun h => ?_) (fun h => ?_)
    · refine j_iconst (v := (-1)) X jd_G_fuse_38 (by decide) ?_
      exact j_iret X rfl jd_G_fuse_39 h
    · refine j_iload_n X jd_G_fuse_22 rfl rfl ?_
      refine j_iload_n X jd_G_fuse_23 rfl rfl ?_
      refine j_icmp_eq (tgt := 38) X jd_G_fuse_24 rfl h (fun h => ?_) (fun h => ?_)
      · refine j_iconst (v := (-1)) X jd_G_fuse_38 (by decide) ?_
        exact j_iret X rfl jd_G_fuse_39 h
      · refine j_iload_n X jd_G_fuse_27 rfl rfl ?_
        refine j_iconst (v := 1) X jd_G_fuse_28 (by decide) ?_
        refine j_sipush (v := 999) X jd_G_fuse_29 (by decide) ?_
        refine j_callSi (As := [.int x3, .int 1, .int 999]) (st := []) X h ⟨jqc_G_within, jqs_G_within, jqn_G⟩ jlm_G_92 jh_G_within.2 rfl (by decide) (by decide) (Nat.le_of_ble_eq_true rfl) ⟨Nat.zero_le _, Nat.zero_le _⟩ (fun v0 I0 h => k_G_within (r := (v0, I0)) hF hn h) jd_G_fuse_32 rfl (fun v5 I6 h => ?_)
        refine j_if_ne (tgt := 40) X jd_G_fuse_35 rfl h (fun h => ?_) (fun h => ?_)
        · refine j_iconst (v := (-1)) X jd_G_fuse_38 (by decide) ?_
          exact j_iret X rfl jd_G_fuse_39 h
        · refine j_aload_n X jd_G_fuse_40 rfl rfl ?_
          refine j_getr X jf_G_44 jk_0_5 js_0 (j_lt rfl hn) (jp_0_5 hF) jd_G_fuse_41 ?_
          refine j_get X jf_G_197 jk_6_1 js_150 (j_lt rfl hn) jd_G_fuse_44 ?_
          refine j_bipush (v := 80) X jd_G_fuse_47 (by decide) ?_
          refine j_icmp_lt (tgt := 57) X jd_G_fuse_49 rfl h (fun h => ?_) (fun h => ?_)
          · refine j_aload_n X jd_G_fuse_57 rfl rfl ?_
            refine j_getr X jf_G_44 jk_0_5 js_0 (j_lt rfl hn) (jp_0_5 hF) jd_G_fuse_58 ?_
            refine j_iload_n X jd_G_fuse_61 rfl rfl ?_
            refine j_iload_n X jd_G_fuse_62 rfl rfl ?_
            refine j_iload_n X jd_G_fuse_63 rfl rfl ?_
            refine j_callVi (As := [.int x1, .int x2, .int x3]) (st := []) (c0 := 150) X h jc_La js_150 (j_lt rfl hn) ⟨jqc_La_join, jqi_La_join, jqv_La_join, jqn_La⟩ jlm_G_200 jh_La_join rfl (by decide) (by decide) (Nat.le_of_ble_eq_true rfl) ⟨Nat.zero_le _, Nat.zero_le _⟩ (fun v0 I0 h => k_La_join (r := (v0, I0)) hF hn h) jd_G_fuse_64 rfl (fun v7 I8 h => ?_)
            exact j_iret X rfl jd_G_fuse_67 h
          · refine j_bipush (v := (-3)) X jd_G_fuse_52 (by decide) ?_
            refine j_goto (tgt := 67) X jd_G_fuse_54 rfl ?_
            exact j_iret X rfl jd_G_fuse_67 h
-- PleasureGarden.dark()I
theorem jd_G_dark_0 : decode jb_G_dark 0 = .ok (.aload_n 0, 1) := by decide +kernel
theorem jd_G_dark_1 : decode jb_G_dark 1 = .ok (.getfield 44, 3) := by decide +kernel
theorem jd_G_dark_4 : decode jb_G_dark 4 = .ok (.invokevirtual 213, 3) := by decide +kernel
theorem jd_G_dark_7 : decode jb_G_dark 7 = .ok (.ireturn, 1) := by decide +kernel
def f_G_dark (F : Nat)  (I : j_M) : Option (Int32 × j_M) := j_bd (f_La_unlit F I) (fun v1 I2 => some (v1, I2))
set_option maxRecDepth 100000 in
set_option maxHeartbeats 4000000 in
theorem k_G_dark {l : Launch} {g : j_G} {b n : Nat} {P : j_R} {F : Nat} (hF : j_Fx 0 260 P) (hn : 260 ≤ n)  {I : j_M} {r : Int32 × j_M}  (h : f_G_dark F I = some r) : j_Met l g b n P 2 jy_G_dark jb_G_dark 1 (some .int) [.ref (b + 0)] I r.2 (some (.int r.1)) := by
  unfold f_G_dark at h
  refine j_enter (plainFor_of_name (by decide)) (Nat.le_of_ble_eq_true rfl) [some (.ref (b + 0))] rfl ?_
  intro p e R s m args below meth c X0 hnm hRc hRs
  have X : j_X p R s m args meth c g b 2 jb_G_dark 1 "PleasureGarden" (some .int) := X0
  clear X0
  refine j_aload_n X jd_G_dark_0 rfl rfl ?_
  refine j_getr X jf_G_44 jk_0_5 js_0 (j_lt rfl hn) (jp_0_5 hF) jd_G_dark_1 ?_
  refine j_callVi (As := []) (st := []) (c0 := 150) X h jc_La js_150 (j_lt rfl hn) ⟨jqc_La_unlit, jqi_La_unlit, jqv_La_unlit, jqn_La⟩ jlm_G_213 jh_La_unlit rfl (by decide) (by decide) (Nat.le_of_ble_eq_true rfl) ⟨Nat.zero_le _, Nat.zero_le _⟩ (fun v0 I0 h => k_La_unlit (r := (v0, I0)) hF hn h) jd_G_dark_4 rfl (fun v1 I2 h => ?_)
  exact j_iret X rfl jd_G_dark_7 h
-- PleasureGarden.spent()I
theorem jd_G_spent_0 : decode jb_G_spent 0 = .ok (.aload_n 0, 1) := by decide +kernel
theorem jd_G_spent_1 : decode jb_G_spent 1 = .ok (.getfield 44, 3) := by decide +kernel
theorem jd_G_spent_4 : decode jb_G_spent 4 = .ok (.aload_n 0, 1) := by decide +kernel
theorem jd_G_spent_5 : decode jb_G_spent 5 = .ok (.getfield 80, 3) := by decide +kernel
theorem jd_G_spent_8 : decode jb_G_spent 8 = .ok (.invokevirtual 216, 3) := by decide +kernel
theorem jd_G_spent_11 : decode jb_G_spent 11 = .ok (.ireturn, 1) := by decide +kernel
def f_G_spent (F : Nat)  (I : j_M) : Option (Int32 × j_M) := j_bd (f_La_burntOut F (I 0 11) I) (fun v1 I2 => some (v1, I2))
set_option maxRecDepth 100000 in
set_option maxHeartbeats 4000000 in
theorem k_G_spent {l : Launch} {g : j_G} {b n : Nat} {P : j_R} {F : Nat} (hF : j_Fx 0 260 P) (hn : 260 ≤ n)  {I : j_M} {r : Int32 × j_M}  (h : f_G_spent F I = some r) : j_Met l g b n P 2 jy_G_spent jb_G_spent 1 (some .int) [.ref (b + 0)] I r.2 (some (.int r.1)) := by
  unfold f_G_spent at h
  refine j_enter (plainFor_of_name (by decide)) (Nat.le_of_ble_eq_true rfl) [some (.ref (b + 0))] rfl ?_
  intro p e R s m args below meth c X0 hnm hRc hRs
  have X : j_X p R s m args meth c g b 2 jb_G_spent 1 "PleasureGarden" (some .int) := X0
  clear X0
  refine j_aload_n X jd_G_spent_0 rfl rfl ?_
  refine j_getr X jf_G_44 jk_0_5 js_0 (j_lt rfl hn) (jp_0_5 hF) jd_G_spent_1 ?_
  refine j_aload_n X jd_G_spent_4 rfl rfl ?_
  refine j_get X jf_G_80 jk_0_11 js_0 (j_lt rfl hn) jd_G_spent_5 ?_
  refine j_callVi (As := [.int (I 0 11)]) (st := []) (c0 := 150) X h jc_La js_150 (j_lt rfl hn) ⟨jqc_La_burntOut, jqi_La_burntOut, jqv_La_burntOut, jqn_La⟩ jlm_G_216 jh_La_burntOut rfl (by decide) (by decide) (Nat.le_of_ble_eq_true rfl) ⟨Nat.zero_le _, Nat.zero_le _⟩ (fun v0 I0 h => k_La_burntOut (r := (v0, I0)) hF hn h) jd_G_spent_8 rfl (fun v1 I2 h => ?_)
  exact j_iret X rfl jd_G_spent_11 h
-- PleasureGarden.foretold(I)I
theorem jd_G_foretold_0 : decode jb_G_foretold 0 = .ok (.iload_n 1, 1) := by decide +kernel
theorem jd_G_foretold_1 : decode jb_G_foretold 1 = .ok (.iconst 0, 1) := by decide +kernel
theorem jd_G_foretold_2 : decode jb_G_foretold 2 = .ok (.sipush 480, 3) := by decide +kernel
theorem jd_G_foretold_5 : decode jb_G_foretold 5 = .ok (.invokestatic 92, 3) := by decide +kernel
theorem jd_G_foretold_8 : decode jb_G_foretold 8 = .ok (.ifCond .eq 24, 3) := by decide +kernel
theorem jd_G_foretold_11 : decode jb_G_foretold 11 = .ok (.aload_n 0, 1) := by decide +kernel
theorem jd_G_foretold_12 : decode jb_G_foretold 12 = .ok (.getfield 72, 3) := by decide +kernel
theorem jd_G_foretold_15 : decode jb_G_foretold 15 = .ok (.getfield 289, 3) := by decide +kernel
theorem jd_G_foretold_18 : decode jb_G_foretold 18 = .ok (.ifCond .le 14, 3) := by decide +kernel
theorem jd_G_foretold_21 : decode jb_G_foretold 21 = .ok (.aload_n 0, 1) := by decide +kernel
theorem jd_G_foretold_22 : decode jb_G_foretold 22 = .ok (.getfield 72, 3) := by decide +kernel
theorem jd_G_foretold_25 : decode jb_G_foretold 25 = .ok (.iload_n 1, 1) := by decide +kernel
theorem jd_G_foretold_26 : decode jb_G_foretold 26 = .ok (.invokevirtual 297, 3) := by decide +kernel
theorem jd_G_foretold_29 : decode jb_G_foretold 29 = .ok (.goto 6, 3) := by decide +kernel
theorem jd_G_foretold_32 : decode jb_G_foretold 32 = .ok (.ldc_w 271, 3) := by decide +kernel
theorem jd_G_foretold_35 : decode jb_G_foretold 35 = .ok (.ireturn, 1) := by decide +kernel
def f_G_foretold (F : Nat) (x1 : Int32) (I : j_M) : Option (Int32 × j_M) := j_bd (f_G_within F x1 0 480 I) (fun v1 I2 => (if v1 = 0 then some ((-2000000000), I2) else (if (I2 211 0) ≤ 0 then some ((-2000000000), I2) else j_bd (f_Le_meanNearest F x1 I2) (fun v3 I4 => some (v3, I4)))))
set_option maxRecDepth 100000 in
set_option maxHeartbeats 4000000 in
theorem k_G_foretold {l : Launch} {g : j_G} {b n : Nat} {P : j_R} {F : Nat} (hF : j_Fx 0 260 P) (hn : 260 ≤ n) {x1 : Int32} {I : j_M} {r : Int32 × j_M}  (h : f_G_foretold F x1 I = some r) : j_Met l g b n P 2 jy_G_foretold jb_G_foretold 2 (some .int) [.ref (b + 0), .int x1] I r.2 (some (.int r.1)) := by
  unfold f_G_foretold at h
  refine j_enter (plainFor_of_name (by decide)) (Nat.le_of_ble_eq_true rfl) [some (.ref (b + 0)), some (.int x1)] rfl ?_
  intro p e R s m args below meth c X0 hnm hRc hRs
  have X : j_X p R s m args meth c g b 2 jb_G_foretold 2 "PleasureGarden" (some .int) := X0
  clear X0
  refine j_iload_n X jd_G_foretold_0 rfl rfl ?_
  refine j_iconst (v := 0) X jd_G_foretold_1 (by decide) ?_
  refine j_sipush (v := 480) X jd_G_foretold_2 (by decide) ?_
  refine j_callSi (As := [.int x1, .int 0, .int 480]) (st := []) X h ⟨jqc_G_within, jqs_G_within, jqn_G⟩ jlm_G_92 jh_G_within.2 rfl (by decide) (by decide) (Nat.le_of_ble_eq_true rfl) ⟨Nat.zero_le _, Nat.zero_le _⟩ (fun v0 I0 h => k_G_within (r := (v0, I0)) hF hn h) jd_G_foretold_5 rfl (fun v1 I2 h => ?_)
  refine j_if_eq (tgt := 32) X jd_G_foretold_8 rfl h (fun h => ?_) (fun h => ?_)
  · refine j_ldcw (v := (-2000000000)) X jlc_G_271 jd_G_foretold_32 ?_
    exact j_iret X rfl jd_G_foretold_35 h
  · refine j_aload_n X jd_G_foretold_11 rfl rfl ?_
    refine j_getr X jf_G_72 jk_0_9 js_0 (j_lt rfl hn) (jp_0_9 hF) jd_G_foretold_12 ?_
    refine j_get X jf_G_289 jk_11_0 js_211 (j_lt rfl hn) jd_G_foretold_15 ?_
    refine j_if_le (tgt := 32) X jd_G_foretold_18 rfl h (fun h => ?_) (fun h => ?_)
    · refine j_ldcw (v := (-2000000000)) X jlc_G_271 jd_G_foretold_32 ?_
      exact j_iret X rfl jd_G_foretold_35 h
    · refine j_aload_n X jd_G_foretold_21 rfl rfl ?_
      refine j_getr X jf_G_72 jk_0_9 js_0 (j_lt rfl hn) (jp_0_9 hF) jd_G_foretold_22 ?_
      refine j_iload_n X jd_G_foretold_25 rfl rfl ?_
      refine j_callVi (As := [.int x1]) (st := []) (c0 := 211) X h jc_Le js_211 (j_lt rfl hn) ⟨jqc_Le_meanNearest, jqi_Le_meanNearest, jqv_Le_meanNearest, jqn_Le⟩ jlm_G_297 jh_Le_meanNearest rfl (by decide) (by decide) (Nat.le_of_ble_eq_true rfl) ⟨Nat.zero_le _, Nat.zero_le _⟩ (fun v0 I0 h => k_Le_meanNearest (r := (v0, I0)) hF hn h) jd_G_foretold_26 rfl (fun v3 I4 h => ?_)
      refine j_goto (tgt := 35) X jd_G_foretold_29 rfl ?_
      exact j_iret X rfl jd_G_foretold_35 h
-- PleasureGarden.near(I)I
theorem jd_G_near_0 : decode jb_G_near 0 = .ok (.iload_n 1, 1) := by decide +kernel
theorem jd_G_near_1 : decode jb_G_near 1 = .ok (.iconst 0, 1) := by decide +kernel
theorem jd_G_near_2 : decode jb_G_near 2 = .ok (.aload_n 0, 1) := by decide +kernel
theorem jd_G_near_3 : decode jb_G_near 3 = .ok (.getfield 37, 3) := by decide +kernel
theorem jd_G_near_6 : decode jb_G_near 6 = .ok (.getfield 300, 3) := by decide +kernel
theorem jd_G_near_9 : decode jb_G_near 9 = .ok (.iconst 1, 1) := by decide +kernel
theorem jd_G_near_10 : decode jb_G_near 10 = .ok (.isub, 1) := by decide +kernel
theorem jd_G_near_11 : decode jb_G_near 11 = .ok (.invokestatic 92, 3) := by decide +kernel
theorem jd_G_near_14 : decode jb_G_near 14 = .ok (.ifCond .eq 14, 3) := by decide +kernel
theorem jd_G_near_17 : decode jb_G_near 17 = .ok (.aload_n 0, 1) := by decide +kernel
theorem jd_G_near_18 : decode jb_G_near 18 = .ok (.getfield 37, 3) := by decide +kernel
theorem jd_G_near_21 : decode jb_G_near 21 = .ok (.iload_n 1, 1) := by decide +kernel
theorem jd_G_near_22 : decode jb_G_near 22 = .ok (.invokevirtual 305, 3) := by decide +kernel
theorem jd_G_near_25 : decode jb_G_near 25 = .ok (.goto 4, 3) := by decide +kernel
theorem jd_G_near_28 : decode jb_G_near 28 = .ok (.iconst (-1), 1) := by decide +kernel
theorem jd_G_near_29 : decode jb_G_near 29 = .ok (.ireturn, 1) := by decide +kernel
def f_G_near (F : Nat) (x1 : Int32) (I : j_M) : Option (Int32 × j_M) := j_bd (f_G_within F x1 0 ((I 143 6) - 1) I) (fun v1 I2 => (if v1 = 0 then some ((-1), I2) else j_bd (f_Wa_witnesses F x1 I2) (fun v3 I4 => some (v3, I4))))
set_option maxRecDepth 100000 in
set_option maxHeartbeats 4000000 in
theorem k_G_near {l : Launch} {g : j_G} {b n : Nat} {P : j_R} {F : Nat} (hF : j_Fx 0 260 P) (hn : 260 ≤ n) {x1 : Int32} {I : j_M} {r : Int32 × j_M}  (h : f_G_near F x1 I = some r) : j_Met l g b n P 2 jy_G_near jb_G_near 2 (some .int) [.ref (b + 0), .int x1] I r.2 (some (.int r.1)) := by
  unfold f_G_near at h
  refine j_enter (plainFor_of_name (by decide)) (Nat.le_of_ble_eq_true rfl) [some (.ref (b + 0)), some (.int x1)] rfl ?_
  intro p e R s m args below meth c X0 hnm hRc hRs
  have X : j_X p R s m args meth c g b 2 jb_G_near 2 "PleasureGarden" (some .int) := X0
  clear X0
  refine j_iload_n X jd_G_near_0 rfl rfl ?_
  refine j_iconst (v := 0) X jd_G_near_1 (by decide) ?_
  refine j_aload_n X jd_G_near_2 rfl rfl ?_
  refine j_getr X jf_G_37 jk_0_4 js_0 (j_lt rfl hn) (jp_0_4 hF) jd_G_near_3 ?_
  refine j_get X jf_G_300 jk_5_6 js_143 (j_lt rfl hn) jd_G_near_6 ?_
  refine j_iconst (v := 1) X jd_G_near_9 (by decide) ?_
  refine j_isub X jd_G_near_10 ?_
  refine j_callSi (As := [.int x1, .int 0, .int ((I 143 6) - 1)]) (st := []) X h ⟨jqc_G_within, jqs_G_within, jqn_G⟩ jlm_G_92 jh_G_within.2 rfl (by decide) (by decide) (Nat.le_of_ble_eq_true rfl) ⟨Nat.zero_le _, Nat.zero_le _⟩ (fun v0 I0 h => k_G_within (r := (v0, I0)) hF hn h) jd_G_near_11 rfl (fun v1 I2 h => ?_)
  refine j_if_eq (tgt := 28) X jd_G_near_14 rfl h (fun h => ?_) (fun h => ?_)
  · refine j_iconst (v := (-1)) X jd_G_near_28 (by decide) ?_
    exact j_iret X rfl jd_G_near_29 h
  · refine j_aload_n X jd_G_near_17 rfl rfl ?_
    refine j_getr X jf_G_37 jk_0_4 js_0 (j_lt rfl hn) (jp_0_4 hF) jd_G_near_18 ?_
    refine j_iload_n X jd_G_near_21 rfl rfl ?_
    refine j_callVi (As := [.int x1]) (st := []) (c0 := 143) X h jc_Wa js_143 (j_lt rfl hn) ⟨jqc_Wa_witnesses, jqi_Wa_witnesses, jqv_Wa_witnesses, jqn_Wa⟩ jlm_G_305 jh_Wa_witnesses rfl (by decide) (by decide) (Nat.le_of_ble_eq_true rfl) ⟨Nat.zero_le _, Nat.zero_le _⟩ (fun v0 I0 h => k_Wa_witnesses (r := (v0, I0)) hF hn h) jd_G_near_22 rfl (fun v3 I4 h => ?_)
    refine j_goto (tgt := 29) X jd_G_near_25 rfl ?_
    exact j_iret X rfl jd_G_near_29 h
-- PleasureGarden.doubt(I)I
theorem jd_G_doubt_0 : decode jb_G_doubt 0 = .ok (.aload_n 0, 1) := by decide +kernel
theorem jd_G_doubt_1 : decode jb_G_doubt 1 = .ok (.getfield 30, 3) := by decide +kernel
theorem jd_G_doubt_4 : decode jb_G_doubt 4 = .ok (.iload_n 1, 1) := by decide +kernel
theorem jd_G_doubt_5 : decode jb_G_doubt 5 = .ok (.invokevirtual 147, 3) := by decide +kernel
theorem jd_G_doubt_8 : decode jb_G_doubt 8 = .ok (.ifCond .eq 14, 3) := by decide +kernel
theorem jd_G_doubt_11 : decode jb_G_doubt 11 = .ok (.aload_n 0, 1) := by decide +kernel
theorem jd_G_doubt_12 : decode jb_G_doubt 12 = .ok (.getfield 37, 3) := by decide +kernel
theorem jd_G_doubt_15 : decode jb_G_doubt 15 = .ok (.iload_n 1, 1) := by decide +kernel
theorem jd_G_doubt_16 : decode jb_G_doubt 16 = .ok (.invokevirtual 308, 3) := by decide +kernel
theorem jd_G_doubt_19 : decode jb_G_doubt 19 = .ok (.goto 4, 3) := by decide +kernel
theorem jd_G_doubt_22 : decode jb_G_doubt 22 = .ok (.iconst (-1), 1) := by decide +kernel
theorem jd_G_doubt_23 : decode jb_G_doubt 23 = .ok (.ireturn, 1) := by decide +kernel
def f_G_doubt (F : Nat) (x1 : Int32) (I : j_M) : Option (Int32 × j_M) := j_bd (f_Gu_has F x1 I) (fun v1 I2 => (if v1 = 0 then some ((-1), I2) else j_bd (f_Wa_suspicion F x1 I2) (fun v3 I4 => some (v3, I4))))
set_option maxRecDepth 100000 in
set_option maxHeartbeats 4000000 in
theorem k_G_doubt {l : Launch} {g : j_G} {b n : Nat} {P : j_R} {F : Nat} (hF : j_Fx 0 260 P) (hn : 260 ≤ n) {x1 : Int32} {I : j_M} {r : Int32 × j_M}  (h : f_G_doubt F x1 I = some r) : j_Met l g b n P 2 jy_G_doubt jb_G_doubt 2 (some .int) [.ref (b + 0), .int x1] I r.2 (some (.int r.1)) := by
  unfold f_G_doubt at h
  refine j_enter (plainFor_of_name (by decide)) (Nat.le_of_ble_eq_true rfl) [some (.ref (b + 0)), some (.int x1)] rfl ?_
  intro p e R s m args below meth c X0 hnm hRc hRs
  have X : j_X p R s m args meth c g b 2 jb_G_doubt 2 "PleasureGarden" (some .int) := X0
  clear X0
  refine j_aload_n X jd_G_doubt_0 rfl rfl ?_
  refine j_getr X jf_G_30 jk_0_3 js_0 (j_lt rfl hn) (jp_0_3 hF) jd_G_doubt_1 ?_
  refine j_iload_n X jd_G_doubt_4 rfl rfl ?_
  refine j_callVi (As := [.int x1]) (st := []) (c0 := 41) X h jc_Gu js_41 (j_lt rfl hn) ⟨jqc_Gu_has, jqi_Gu_has, jqv_Gu_has, jqn_Gu⟩ jlm_G_147 jh_Gu_has rfl (by decide) (by decide) (Nat.le_of_ble_eq_true rfl) ⟨Nat.zero_le _, Nat.zero_le _⟩ (fun v0 I0 h => k_Gu_has (r := (v0, I0)) hF hn h) jd_G_doubt_5 rfl (fun v1 I2 h => ?_)
  refine j_if_eq (tgt := 22) X jd_G_doubt_8 rfl h (fun h => ?_) (fun h => ?_)
  · refine j_iconst (v := (-1)) X jd_G_doubt_22 (by decide) ?_
    exact j_iret X rfl jd_G_doubt_23 h
  · refine j_aload_n X jd_G_doubt_11 rfl rfl ?_
    refine j_getr X jf_G_37 jk_0_4 js_0 (j_lt rfl hn) (jp_0_4 hF) jd_G_doubt_12 ?_
    refine j_iload_n X jd_G_doubt_15 rfl rfl ?_
    refine j_callVi (As := [.int x1]) (st := []) (c0 := 143) X h jc_Wa js_143 (j_lt rfl hn) ⟨jqc_Wa_suspicion, jqi_Wa_suspicion, jqv_Wa_suspicion, jqn_Wa⟩ jlm_G_308 jh_Wa_suspicion rfl (by decide) (by decide) (Nat.le_of_ble_eq_true rfl) ⟨Nat.zero_le _, Nat.zero_le _⟩ (fun v0 I0 h => k_Wa_suspicion (r := (v0, I0)) hF hn h) jd_G_doubt_16 rfl (fun v3 I4 h => ?_)
    refine j_goto (tgt := 23) X jd_G_doubt_19 rfl ?_
    exact j_iret X rfl jd_G_doubt_23 h
-- PleasureGarden.count(I)I
theorem jd_G_count_0 : decode jb_G_count 0 = .ok (.iload_n 1, 1) := by decide +kernel
theorem jd_G_count_1 : decode jb_G_count 1 = .ok (.tableswitch 192 0 15 #[79, 87, 95, 103, 111, 119, 127, 135, 143, 151, 156, 161, 169, 174, 179, 184], 79) := by decide +kernel
theorem jd_G_count_80 : decode jb_G_count 80 = .ok (.aload_n 0, 1) := by decide +kernel
theorem jd_G_count_81 : decode jb_G_count 81 = .ok (.getfield 10, 3) := by decide +kernel
theorem jd_G_count_84 : decode jb_G_count 84 = .ok (.getfield 96, 3) := by decide +kernel
theorem jd_G_count_87 : decode jb_G_count 87 = .ok (.ireturn, 1) := by decide +kernel
theorem jd_G_count_88 : decode jb_G_count 88 = .ok (.aload_n 0, 1) := by decide +kernel
theorem jd_G_count_89 : decode jb_G_count 89 = .ok (.getfield 30, 3) := by decide +kernel
theorem jd_G_count_92 : decode jb_G_count 92 = .ok (.getfield 124, 3) := by decide +kernel
theorem jd_G_count_95 : decode jb_G_count 95 = .ok (.ireturn, 1) := by decide +kernel
theorem jd_G_count_96 : decode jb_G_count 96 = .ok (.aload_n 0, 1) := by decide +kernel
theorem jd_G_count_97 : decode jb_G_count 97 = .ok (.getfield 30, 3) := by decide +kernel
theorem jd_G_count_100 : decode jb_G_count 100 = .ok (.invokevirtual 311, 3) := by decide +kernel
theorem jd_G_count_103 : decode jb_G_count 103 = .ok (.ireturn, 1) := by decide +kernel
theorem jd_G_count_104 : decode jb_G_count 104 = .ok (.aload_n 0, 1) := by decide +kernel
theorem jd_G_count_105 : decode jb_G_count 105 = .ok (.getfield 44, 3) := by decide +kernel
theorem jd_G_count_108 : decode jb_G_count 108 = .ok (.getfield 192, 3) := by decide +kernel
theorem jd_G_count_111 : decode jb_G_count 111 = .ok (.ireturn, 1) := by decide +kernel
theorem jd_G_count_112 : decode jb_G_count 112 = .ok (.aload_n 0, 1) := by decide +kernel
theorem jd_G_count_113 : decode jb_G_count 113 = .ok (.getfield 44, 3) := by decide +kernel
theorem jd_G_count_116 : decode jb_G_count 116 = .ok (.getfield 197, 3) := by decide +kernel
theorem jd_G_count_119 : decode jb_G_count 119 = .ok (.ireturn, 1) := by decide +kernel
theorem jd_G_count_120 : decode jb_G_count 120 = .ok (.aload_n 0, 1) := by decide +kernel
theorem jd_G_count_121 : decode jb_G_count 121 = .ok (.getfield 51, 3) := by decide +kernel
theorem jd_G_count_124 : decode jb_G_count 124 = .ok (.getfield 222, 3) := by decide +kernel
theorem jd_G_count_127 : decode jb_G_count 127 = .ok (.ireturn, 1) := by decide +kernel
theorem jd_G_count_128 : decode jb_G_count 128 = .ok (.aload_n 0, 1) := by decide +kernel
theorem jd_G_count_129 : decode jb_G_count 129 = .ok (.getfield 58, 3) := by decide +kernel
theorem jd_G_count_132 : decode jb_G_count 132 = .ok (.getfield 253, 3) := by decide +kernel
theorem jd_G_count_135 : decode jb_G_count 135 = .ok (.ireturn, 1) := by decide +kernel
theorem jd_G_count_136 : decode jb_G_count 136 = .ok (.aload_n 0, 1) := by decide +kernel
theorem jd_G_count_137 : decode jb_G_count 137 = .ok (.getfield 58, 3) := by decide +kernel
theorem jd_G_count_140 : decode jb_G_count 140 = .ok (.getfield 243, 3) := by decide +kernel
theorem jd_G_count_143 : decode jb_G_count 143 = .ok (.ireturn, 1) := by decide +kernel
theorem jd_G_count_144 : decode jb_G_count 144 = .ok (.aload_n 0, 1) := by decide +kernel
theorem jd_G_count_145 : decode jb_G_count 145 = .ok (.getfield 65, 3) := by decide +kernel
theorem jd_G_count_148 : decode jb_G_count 148 = .ok (.getfield 266, 3) := by decide +kernel
theorem jd_G_count_151 : decode jb_G_count 151 = .ok (.ireturn, 1) := by decide +kernel
theorem jd_G_count_152 : decode jb_G_count 152 = .ok (.aload_n 0, 1) := by decide +kernel
theorem jd_G_count_153 : decode jb_G_count 153 = .ok (.getfield 76, 3) := by decide +kernel
theorem jd_G_count_156 : decode jb_G_count 156 = .ok (.ireturn, 1) := by decide +kernel
theorem jd_G_count_157 : decode jb_G_count 157 = .ok (.aload_n 0, 1) := by decide +kernel
theorem jd_G_count_158 : decode jb_G_count 158 = .ok (.getfield 80, 3) := by decide +kernel
theorem jd_G_count_161 : decode jb_G_count 161 = .ok (.ireturn, 1) := by decide +kernel
theorem jd_G_count_162 : decode jb_G_count 162 = .ok (.aload_n 0, 1) := by decide +kernel
theorem jd_G_count_163 : decode jb_G_count 163 = .ok (.getfield 65, 3) := by decide +kernel
theorem jd_G_count_166 : decode jb_G_count 166 = .ok (.getfield 260, 3) := by decide +kernel
theorem jd_G_count_169 : decode jb_G_count 169 = .ok (.ireturn, 1) := by decide +kernel
theorem jd_G_count_170 : decode jb_G_count 170 = .ok (.aload_n 0, 1) := by decide +kernel
theorem jd_G_count_171 : decode jb_G_count 171 = .ok (.getfield 83, 3) := by decide +kernel
theorem jd_G_count_174 : decode jb_G_count 174 = .ok (.ireturn, 1) := by decide +kernel
theorem jd_G_count_175 : decode jb_G_count 175 = .ok (.aload_n 0, 1) := by decide +kernel
theorem jd_G_count_176 : decode jb_G_count 176 = .ok (.getfield 86, 3) := by decide +kernel
theorem jd_G_count_179 : decode jb_G_count 179 = .ok (.ireturn, 1) := by decide +kernel
theorem jd_G_count_180 : decode jb_G_count 180 = .ok (.aload_n 0, 1) := by decide +kernel
theorem jd_G_count_181 : decode jb_G_count 181 = .ok (.getfield 89, 3) := by decide +kernel
theorem jd_G_count_184 : decode jb_G_count 184 = .ok (.ireturn, 1) := by decide +kernel
theorem jd_G_count_185 : decode jb_G_count 185 = .ok (.aload_n 0, 1) := by decide +kernel
theorem jd_G_count_186 : decode jb_G_count 186 = .ok (.getfield 58, 3) := by decide +kernel
theorem jd_G_count_189 : decode jb_G_count 189 = .ok (.getfield 314, 3) := by decide +kernel
theorem jd_G_count_192 : decode jb_G_count 192 = .ok (.ireturn, 1) := by decide +kernel
theorem jd_G_count_193 : decode jb_G_count 193 = .ok (.iconst (-1), 1) := by decide +kernel
theorem jd_G_count_194 : decode jb_G_count 194 = .ok (.ireturn, 1) := by decide +kernel
def f_G_count (F : Nat) (x1 : Int32) (I : j_M) : Option (Int32 × j_M) := (if x1 = 0 then some (I 1 0, I) else (if x1 = 1 then some (I 41 0, I) else (if x1 = 2 then j_bd (f_Gu_headsIn F I) (fun v4 I5 => some (v4, I5)) else (if x1 = 3 then some (I 150 0, I) else (if x1 = 4 then some (I 150 1, I) else (if x1 = 5 then some (I 194 0, I) else (if x1 = 6 then some (I 198 4, I) else (if x1 = 7 then some (I 198 0, I) else (if x1 = 8 then some (I 202 0, I) else (if x1 = 9 then some (I 0 10, I) else (if x1 = 10 then some (I 0 11, I) else (if x1 = 11 then some (I 202 1, I) else (if x1 = 12 then some (I 0 12, I) else (if x1 = 13 then some (I 0 13, I) else (if x1 = 14 then some (I 0 14, I) else (if x1 = 15 then some (I 198 3, I) else some ((-1), I)))))))))))))))))
set_option maxRecDepth 100000 in
set_option maxHeartbeats 4000000 in
theorem k_G_count {l : Launch} {g : j_G} {b n : Nat} {P : j_R} {F : Nat} (hF : j_Fx 0 260 P) (hn : 260 ≤ n) {x1 : Int32} {I : j_M} {r : Int32 × j_M}  (h : f_G_count F x1 I = some r) : j_Met l g b n P 2 jy_G_count jb_G_count 2 (some .int) [.ref (b + 0), .int x1] I r.2 (some (.int r.1)) := by
  unfold f_G_count at h
  refine j_enter (plainFor_of_name (by decide)) (Nat.le_of_ble_eq_true rfl) [some (.ref (b + 0)), some (.int x1)] rfl ?_
  intro p e R s m args below meth c X0 hnm hRc hRs
  have X : j_X p R s m args meth c g b 2 jb_G_count 2 "PleasureGarden" (some .int) := X0
  clear X0
  refine j_iload_n X jd_G_count_0 rfl rfl ?_
  refine j_ite h (fun e1 h => ?_) (fun e1 h => ?_)
  · refine j_tableIn (tgt := 80) (off := 79) X jd_G_count_1 e1 (by decide) (by decide) (by decide) rfl ?_
    refine j_aload_n X jd_G_count_80 rfl rfl ?_
    refine j_getr X jf_G_10 jk_0_0 js_0 (j_lt rfl hn) (jp_0_0 hF) jd_G_count_81 ?_
    refine j_get X jf_G_96 jk_1_0 js_1 (j_lt rfl hn) jd_G_count_84 ?_
    exact j_iret X rfl jd_G_count_87 h
  · refine j_ite h (fun e2 h => ?_) (fun e2 h => ?_)
    · refine j_tableIn (tgt := 88) (off := 87) X jd_G_count_1 e2 (by decide) (by decide) (by decide) rfl ?_
      refine j_aload_n X jd_G_count_88 rfl rfl ?_
      refine j_getr X jf_G_30 jk_0_3 js_0 (j_lt rfl hn) (jp_0_3 hF) jd_G_count_89 ?_
      refine j_get X jf_G_124 jk_3_0 js_41 (j_lt rfl hn) jd_G_count_92 ?_
      exact j_iret X rfl jd_G_count_95 h
    · refine j_ite h (fun e3 h => ?_) (fun e3 h => ?_)
      · refine j_tableIn (tgt := 96) (off := 95) X jd_G_count_1 e3 (by decide) (by decide) (by decide) rfl ?_
        refine j_aload_n X jd_G_count_96 rfl rfl ?_
        refine j_getr X jf_G_30 jk_0_3 js_0 (j_lt rfl hn) (jp_0_3 hF) jd_G_count_97 ?_
        refine j_callVi (As := []) (st := []) (c0 := 41) X h jc_Gu js_41 (j_lt rfl hn) ⟨jqc_Gu_headsIn, jqi_Gu_headsIn, jqv_Gu_headsIn, jqn_Gu⟩ jlm_G_311 jh_Gu_headsIn rfl (by decide) (by decide) (Nat.le_of_ble_eq_true rfl) ⟨Nat.zero_le _, Nat.zero_le _⟩ (fun v0 I0 h => k_Gu_headsIn (r := (v0, I0)) hF hn h) jd_G_count_100 rfl (fun v4 I5 h => ?_)
        exact j_iret X rfl jd_G_count_103 h
      · refine j_ite h (fun e6 h => ?_) (fun e6 h => ?_)
        · refine j_tableIn (tgt := 104) (off := 103) X jd_G_count_1 e6 (by decide) (by decide) (by decide) rfl ?_
          refine j_aload_n X jd_G_count_104 rfl rfl ?_
          refine j_getr X jf_G_44 jk_0_5 js_0 (j_lt rfl hn) (jp_0_5 hF) jd_G_count_105 ?_
          refine j_get X jf_G_192 jk_6_0 js_150 (j_lt rfl hn) jd_G_count_108 ?_
          exact j_iret X rfl jd_G_count_111 h
        · refine j_ite h (fun e7 h => ?_) (fun e7 h => ?_)
          · refine j_tableIn (tgt := 112) (off := 111) X jd_G_count_1 e7 (by decide) (by decide) (by decide) rfl ?_
            refine j_aload_n X jd_G_count_112 rfl rfl ?_
            refine j_getr X jf_G_44 jk_0_5 js_0 (j_lt rfl hn) (jp_0_5 hF) jd_G_count_113 ?_
            refine j_get X jf_G_197 jk_6_1 js_150 (j_lt rfl hn) jd_G_count_116 ?_
            exact j_iret X rfl jd_G_count_119 h
          · refine j_ite h (fun e8 h => ?_) (fun e8 h => ?_)
            · refine j_tableIn (tgt := 120) (off := 119) X jd_G_count_1 e8 (by decide) (by decide) (by decide) rfl ?_
              refine j_aload_n X jd_G_count_120 rfl rfl ?_
              refine j_getr X jf_G_51 jk_0_6 js_0 (j_lt rfl hn) (jp_0_6 hF) jd_G_count_121 ?_
              refine j_get X jf_G_222 jk_7_0 js_194 (j_lt rfl hn) jd_G_count_124 ?_
              exact j_iret X rfl jd_G_count_127 h
            · refine j_ite h (fun e9 h => ?_) (fun e9 h => ?_)
              · refine j_tableIn (tgt := 128) (off := 127) X jd_G_count_1 e9 (by decide) (by decide) (by decide) rfl ?_
                refine j_aload_n X jd_G_count_128 rfl rfl ?_
                refine j_getr X jf_G_58 jk_0_7 js_0 (j_lt rfl hn) (jp_0_7 hF) jd_G_count_129 ?_
                refine j_get X jf_G_253 jk_8_4 js_198 (j_lt rfl hn) jd_G_count_132 ?_
                exact j_iret X rfl jd_G_count_135 h
              · refine j_ite h (fun e10 h => ?_) (fun e10 h => ?_)
                · refine j_tableIn (tgt := 136) (off := 135) X jd_G_count_1 e10 (by decide) (by decide) (by decide) rfl ?_
                  refine j_aload_n X jd_G_count_136 rfl rfl ?_
                  refine j_getr X jf_G_58 jk_0_7 js_0 (j_lt rfl hn) (jp_0_7 hF) jd_G_count_137 ?_
                  refine j_get X jf_G_243 jk_8_0 js_198 (j_lt rfl hn) jd_G_count_140 ?_
                  exact j_iret X rfl jd_G_count_143 h
                · refine j_ite h (fun e11 h => ?_) (fun e11 h => ?_)
                  · refine j_tableIn (tgt := 144) (off := 143) X jd_G_count_1 e11 (by decide) (by decide) (by decide) rfl ?_
                    refine j_aload_n X jd_G_count_144 rfl rfl ?_
                    refine j_getr X jf_G_65 jk_0_8 js_0 (j_lt rfl hn) (jp_0_8 hF) jd_G_count_145 ?_
                    refine j_get X jf_G_266 jk_9_0 js_202 (j_lt rfl hn) jd_G_count_148 ?_
                    exact j_iret X rfl jd_G_count_151 h
                  · refine j_ite h (fun e12 h => ?_) (fun e12 h => ?_)
                    · refine j_tableIn (tgt := 152) (off := 151) X jd_G_count_1 e12 (by decide) (by decide) (by decide) rfl ?_
                      refine j_aload_n X jd_G_count_152 rfl rfl ?_
                      refine j_get X jf_G_76 jk_0_10 js_0 (j_lt rfl hn) jd_G_count_153 ?_
                      exact j_iret X rfl jd_G_count_156 h
                    · refine j_ite h (fun e13 h => ?_) (fun e13 h => ?_)
                      · refine j_tableIn (tgt := 157) (off := 156) X jd_G_count_1 e13 (by decide) (by decide) (by decide) rfl ?_
                        refine j_aload_n X jd_G_count_157 rfl rfl ?_
                        refine j_get X jf_G_80 jk_0_11 js_0 (j_lt rfl hn) jd_G_count_158 ?_
                        exact j_iret X rfl jd_G_count_161 h
                      · refine j_ite h (fun e14 h => ?_) (fun e14 h => ?_)
                        · refine j_tableIn (tgt := 162) (off := 161) X jd_G_count_1 e14 (by decide) (by decide) (by decide) rfl ?_
                          refine j_aload_n X jd_G_count_162 rfl rfl ?_
                          refine j_getr X jf_G_65 jk_0_8 js_0 (j_lt rfl hn) (jp_0_8 hF) jd_G_count_163 ?_
                          refine j_get X jf_G_260 jk_9_1 js_202 (j_lt rfl hn) jd_G_count_166 ?_
                          exact j_iret X rfl jd_G_count_169 h
                        · refine j_ite h (fun e15 h => ?_) (fun e15 h => ?_)
                          · refine j_tableIn (tgt := 170) (off := 169) X jd_G_count_1 e15 (by decide) (by decide) (by decide) rfl ?_
                            refine j_aload_n X jd_G_count_170 rfl rfl ?_
                            refine j_get X jf_G_83 jk_0_12 js_0 (j_lt rfl hn) jd_G_count_171 ?_
                            exact j_iret X rfl jd_G_count_174 h
                          · refine j_ite h (fun e16 h => ?_) (fun e16 h => ?_)
                            · refine j_tableIn (tgt := 175) (off := 174) X jd_G_count_1 e16 (by decide) (by decide) (by decide) rfl ?_
                              refine j_aload_n X jd_G_count_175 rfl rfl ?_
                              refine j_get X jf_G_86 jk_0_13 js_0 (j_lt rfl hn) jd_G_count_176 ?_
                              exact j_iret X rfl jd_G_count_179 h
                            · refine j_ite h (fun e17 h => ?_) (fun e17 h => ?_)
                              · refine j_tableIn (tgt := 180) (off := 179) X jd_G_count_1 e17 (by decide) (by decide) (by decide) rfl ?_
                                refine j_aload_n X jd_G_count_180 rfl rfl ?_
                                refine j_get X jf_G_89 jk_0_14 js_0 (j_lt rfl hn) jd_G_count_181 ?_
                                exact j_iret X rfl jd_G_count_184 h
                              · refine j_ite h (fun e18 h => ?_) (fun e18 h => ?_)
                                · refine j_tableIn (tgt := 185) (off := 184) X jd_G_count_1 e18 (by decide) (by decide) (by decide) rfl ?_
                                  refine j_aload_n X jd_G_count_185 rfl rfl ?_
                                  refine j_getr X jf_G_58 jk_0_7 js_0 (j_lt rfl hn) (jp_0_7 hF) jd_G_count_186 ?_
                                  refine j_get X jf_G_314 jk_8_3 js_198 (j_lt rfl hn) jd_G_count_189 ?_
                                  exact j_iret X rfl jd_G_count_192 h
                                · refine j_tableDef (tgt := 193) X [0, 1, 2, 3, 4, 5, 6, 7, 8, 9, 10, 11, 12, 13, 14, 15] jd_G_count_1 (j_allc e1 (j_allc e2 (j_allc e3 (j_allc e6 (j_allc e7 (j_allc e8 (j_allc e9 (j_allc e10 (j_allc e11 (j_allc e12 (j_allc e13 (j_allc e14 (j_allc e15 (j_allc e16 (j_allc e17 (j_allc e18 j_all0)))))))))))))))) (by decide) (by decide) (by decide) (by decide) rfl ?_
                                  refine j_iconst (v := (-1)) X jd_G_count_193 (by decide) ?_
                                  exact j_iret X rfl jd_G_count_194 h
-- PleasureGarden.quitBox(LPleasureGarden$Party;)V
theorem jd_G_quitBox_0 : decode jb_G_quitBox 0 = .ok (.aload_n 0, 1) := by decide +kernel
theorem jd_G_quitBox_1 : decode jb_G_quitBox 1 = .ok (.getfield 51, 3) := by decide +kernel
theorem jd_G_quitBox_4 : decode jb_G_quitBox 4 = .ok (.aload_n 1, 1) := by decide +kernel
theorem jd_G_quitBox_5 : decode jb_G_quitBox 5 = .ok (.getfield 227, 3) := by decide +kernel
theorem jd_G_quitBox_8 : decode jb_G_quitBox 8 = .ok (.invokevirtual 224, 3) := by decide +kernel
theorem jd_G_quitBox_11 : decode jb_G_quitBox 11 = .ok (.ifCond .eq 32, 3) := by decide +kernel
theorem jd_G_quitBox_14 : decode jb_G_quitBox 14 = .ok (.aload_n 0, 1) := by decide +kernel
theorem jd_G_quitBox_15 : decode jb_G_quitBox 15 = .ok (.getfield 51, 3) := by decide +kernel
theorem jd_G_quitBox_18 : decode jb_G_quitBox 18 = .ok (.getfield 236, 3) := by decide +kernel
theorem jd_G_quitBox_21 : decode jb_G_quitBox 21 = .ok (.aload_n 1, 1) := by decide +kernel
theorem jd_G_quitBox_22 : decode jb_G_quitBox 22 = .ok (.getfield 227, 3) := by decide +kernel
theorem jd_G_quitBox_25 : decode jb_G_quitBox 25 = .ok (.iconst (-1), 1) := by decide +kernel
theorem jd_G_quitBox_26 : decode jb_G_quitBox 26 = .ok (.iastore, 1) := by decide +kernel
theorem jd_G_quitBox_27 : decode jb_G_quitBox 27 = .ok (.aload_n 1, 1) := by decide +kernel
theorem jd_G_quitBox_28 : decode jb_G_quitBox 28 = .ok (.iconst (-1), 1) := by decide +kernel
theorem jd_G_quitBox_29 : decode jb_G_quitBox 29 = .ok (.putfield 227, 3) := by decide +kernel
theorem jd_G_quitBox_32 : decode jb_G_quitBox 32 = .ok (.aload_n 0, 1) := by decide +kernel
theorem jd_G_quitBox_33 : decode jb_G_quitBox 33 = .ok (.getfield 58, 3) := by decide +kernel
theorem jd_G_quitBox_36 : decode jb_G_quitBox 36 = .ok (.aload_n 1, 1) := by decide +kernel
theorem jd_G_quitBox_37 : decode jb_G_quitBox 37 = .ok (.getfield 144, 3) := by decide +kernel
theorem jd_G_quitBox_40 : decode jb_G_quitBox 40 = .ok (.invokevirtual 333, 3) := by decide +kernel
theorem jd_G_quitBox_43 : decode jb_G_quitBox 43 = .ok (.return_, 1) := by decide +kernel
def f_G_quitBox (F : Nat) (x1 : Nat) (I : j_M) : Option (Int32 × j_M) := j_bd (f_Bo_has F (I (43 + x1) 6) I) (fun v1 I2 => (if v1 = 0 then some (0, I2) else (if j_ok (I2 (43 + x1) 6) 20 = true then j_let (j_wr I2 197 (j_ix (I2 (43 + x1) 6)) (-1)) (fun I3 => j_let (j_wr I3 (43 + x1) 6 (-1)) (fun I4 => j_bd (f_Ki_dropOrdersOf F (I4 (43 + x1) 0) I4) (fun v5 I6 => some (0, I6)))) else none)))
set_option maxRecDepth 100000 in
set_option maxHeartbeats 4000000 in
theorem k_G_quitBox {l : Launch} {g : j_G} {b n : Nat} {P : j_R} {F : Nat} (hF : j_Fx 0 260 P) (hn : 260 ≤ n) {x1 : Nat} {I : j_M} {r : Int32 × j_M} (hx1 : x1 < 100) (h : f_G_quitBox F x1 I = some r) : j_Met l g b n P 2 jy_G_quitBox jb_G_quitBox 2 none [.ref (b + 0), .ref (b + (43 + x1))] I r.2 none := by
  unfold f_G_quitBox at h
  refine j_enter (plainFor_of_name (by decide)) (Nat.le_of_ble_eq_true rfl) [some (.ref (b + 0)), some (.ref (b + (43 + x1)))] rfl ?_
  intro p e R s m args below meth c X0 hnm hRc hRs
  have X : j_X p R s m args meth c g b 2 jb_G_quitBox 2 "PleasureGarden" none := X0
  clear X0
  refine j_aload_n X jd_G_quitBox_0 rfl rfl ?_
  refine j_getr X jf_G_51 jk_0_6 js_0 (j_lt rfl hn) (jp_0_6 hF) jd_G_quitBox_1 ?_
  refine j_aload_n X jd_G_quitBox_4 rfl rfl ?_
  refine j_get X jf_G_227 jk_4_6 (jsp_43 hx1) (j_ltq hx1 rfl hn) jd_G_quitBox_5 ?_
  refine j_callVi (As := [.int (I (43 + x1) 6)]) (st := []) (c0 := 194) X h jc_Bo js_194 (j_lt rfl hn) ⟨jqc_Bo_has, jqi_Bo_has, jqv_Bo_has, jqn_Bo⟩ jlm_G_224 jh_Bo_has rfl (by decide) (by decide) (Nat.le_of_ble_eq_true rfl) ⟨Nat.zero_le _, Nat.zero_le _⟩ (fun v0 I0 h => k_Bo_has (r := (v0, I0)) hF hn h) jd_G_quitBox_8 rfl (fun v1 I2 h => ?_)
  refine j_if_eq (tgt := 43) X jd_G_quitBox_11 rfl h (fun h => ?_) (fun h => ?_)
  · exact j_vret X rfl jd_G_quitBox_43 h
  · refine j_aload_n X jd_G_quitBox_14 rfl rfl ?_
    refine j_getr X jf_G_51 jk_0_6 js_0 (j_lt rfl hn) (jp_0_6 hF) jd_G_quitBox_15 ?_
    refine j_getr X jf_G_236 jk_7_3 js_194 (j_lt rfl hn) (jp_194_3 hF) jd_G_quitBox_18 ?_
    refine j_aload_n X jd_G_quitBox_21 rfl rfl ?_
    refine j_get X jf_G_227 jk_4_6 (jsp_43 hx1) (j_ltq hx1 rfl hn) jd_G_quitBox_22 ?_
    refine j_iconst (v := (-1)) X jd_G_quitBox_25 (by decide) ?_
    refine j_iast X js_197 (j_lt rfl hn) jd_G_quitBox_26 h (fun h => ?_)
    refine j_mem h (fun I3 h => ?_)
    refine j_aload_n X jd_G_quitBox_27 rfl rfl ?_
    refine j_iconst (v := (-1)) X jd_G_quitBox_28 (by decide) ?_
    refine j_puti X jt_Pa jto_Pa jn_Pa jf_G_227 jk_4_6 (jsp_43 hx1) (j_ltq hx1 rfl hn) (Or.inl rfl) rfl jd_G_quitBox_29 ?_
    refine j_mem h (fun I4 h => ?_)
    refine j_aload_n X jd_G_quitBox_32 rfl rfl ?_
    refine j_getr X jf_G_58 jk_0_7 js_0 (j_lt rfl hn) (jp_0_7 hF) jd_G_quitBox_33 ?_
    refine j_aload_n X jd_G_quitBox_36 rfl rfl ?_
    refine j_get X jf_G_144 jk_4_0 (jsp_43 hx1) (j_ltq hx1 rfl hn) jd_G_quitBox_37 ?_
    refine j_callVv (As := [.int (I4 (43 + x1) 0)]) (st := []) (c0 := 198) X h jc_Ki js_198 (j_lt rfl hn) ⟨jqc_Ki_dropOrdersOf, jqi_Ki_dropOrdersOf, jqv_Ki_dropOrdersOf, jqn_Ki⟩ jlm_G_333 jh_Ki_dropOrdersOf rfl (by decide) (by decide) (Nat.le_of_ble_eq_true rfl) ⟨Nat.zero_le _, Nat.zero_le _⟩ (fun v0 I0 h => k_Ki_dropOrdersOf (r := (v0, I0)) hF hn h) jd_G_quitBox_40 rfl (fun v5 I6 h => ?_)
    exact j_vret X rfl jd_G_quitBox_43 h
-- PleasureGarden.seatArrivals()V
theorem jd_G_seatArrivals_0 : decode jb_G_seatArrivals 0 = .ok (.iconst 0, 1) := by decide +kernel
theorem jd_G_seatArrivals_1 : decode jb_G_seatArrivals 1 = .ok (.istore_n 1, 1) := by decide +kernel
theorem jd_G_seatArrivals_2 : decode jb_G_seatArrivals 2 = .ok (.iload_n 1, 1) := by decide +kernel
theorem jd_G_seatArrivals_3 : decode jb_G_seatArrivals 3 = .ok (.aload_n 0, 1) := by decide +kernel
theorem jd_G_seatArrivals_4 : decode jb_G_seatArrivals 4 = .ok (.getfield 30, 3) := by decide +kernel
theorem jd_G_seatArrivals_7 : decode jb_G_seatArrivals 7 = .ok (.getfield 124, 3) := by decide +kernel
theorem jd_G_seatArrivals_10 : decode jb_G_seatArrivals 10 = .ok (.if_icmp .ge 47, 3) := by decide +kernel
theorem jd_G_seatArrivals_13 : decode jb_G_seatArrivals 13 = .ok (.aload_n 0, 1) := by decide +kernel
theorem jd_G_seatArrivals_14 : decode jb_G_seatArrivals 14 = .ok (.getfield 30, 3) := by decide +kernel
theorem jd_G_seatArrivals_17 : decode jb_G_seatArrivals 17 = .ok (.getfield 148, 3) := by decide +kernel
theorem jd_G_seatArrivals_20 : decode jb_G_seatArrivals 20 = .ok (.iload_n 1, 1) := by decide +kernel
theorem jd_G_seatArrivals_21 : decode jb_G_seatArrivals 21 = .ok (.aaload, 1) := by decide +kernel
theorem jd_G_seatArrivals_22 : decode jb_G_seatArrivals 22 = .ok (.astore_n 2, 1) := by decide +kernel
theorem jd_G_seatArrivals_23 : decode jb_G_seatArrivals 23 = .ok (.aload_n 2, 1) := by decide +kernel
theorem jd_G_seatArrivals_24 : decode jb_G_seatArrivals 24 = .ok (.getfield 152, 3) := by decide +kernel
theorem jd_G_seatArrivals_27 : decode jb_G_seatArrivals 27 = .ok (.iconst 1, 1) := by decide +kernel
theorem jd_G_seatArrivals_28 : decode jb_G_seatArrivals 28 = .ok (.if_icmp .ne 23, 3) := by decide +kernel
theorem jd_G_seatArrivals_31 : decode jb_G_seatArrivals 31 = .ok (.aload_n 2, 1) := by decide +kernel
theorem jd_G_seatArrivals_32 : decode jb_G_seatArrivals 32 = .ok (.getfield 317, 3) := by decide +kernel
theorem jd_G_seatArrivals_35 : decode jb_G_seatArrivals 35 = .ok (.aload_n 0, 1) := by decide +kernel
theorem jd_G_seatArrivals_36 : decode jb_G_seatArrivals 36 = .ok (.getfield 80, 3) := by decide +kernel
theorem jd_G_seatArrivals_39 : decode jb_G_seatArrivals 39 = .ok (.if_icmp .gt 12, 3) := by decide +kernel
theorem jd_G_seatArrivals_42 : decode jb_G_seatArrivals 42 = .ok (.aload_n 0, 1) := by decide +kernel
theorem jd_G_seatArrivals_43 : decode jb_G_seatArrivals 43 = .ok (.aload_n 2, 1) := by decide +kernel
theorem jd_G_seatArrivals_44 : decode jb_G_seatArrivals 44 = .ok (.aload_n 2, 1) := by decide +kernel
theorem jd_G_seatArrivals_45 : decode jb_G_seatArrivals 45 = .ok (.getfield 155, 3) := by decide +kernel
theorem jd_G_seatArrivals_48 : decode jb_G_seatArrivals 48 = .ok (.invokevirtual 128, 3) := by decide +kernel
theorem jd_G_seatArrivals_51 : decode jb_G_seatArrivals 51 = .ok (.iinc 1 1, 3) := by decide +kernel
theorem jd_G_seatArrivals_54 : decode jb_G_seatArrivals 54 = .ok (.goto (-52), 3) := by decide +kernel
theorem jd_G_seatArrivals_57 : decode jb_G_seatArrivals 57 = .ok (.return_, 1) := by decide +kernel
def f_G_seatArrivals_51 (F : Nat) (kb2 : Int32 → j_M → Option (Int32 × j_M)) (x1 : Int32) (I : j_M) : Option (Int32 × j_M) := j_let (x1 + 1) (fun v1 => kb2 v1 I)
def f_G_seatArrivals_2b (F : Nat) (kb2 : Int32 → j_M → Option (Int32 × j_M)) (x1 : Int32) (I : j_M) : Option (Int32 × j_M) := (if (I 41 0) ≤ x1 then some (0, I) else (if j_ok x1 100 = true then (if (I (43 + (j_ix x1)) 3) = 1 then (if (I 0 11) < (I (43 + (j_ix x1)) 5) then f_G_seatArrivals_51 F kb2 x1 I else j_bd (f_G_settle F (j_ix x1) (I (43 + (j_ix x1)) 4) I) (fun v3 I4 => f_G_seatArrivals_51 F kb2 x1 I4)) else f_G_seatArrivals_51 F kb2 x1 I) else none))
def f_G_seatArrivals_2 (F : Nat)  (x1 : Int32) (I : j_M) : Option (Int32 × j_M) := j_it (fun (again : Int32 × j_M → Option (Int32 × j_M)) (q : Int32 × j_M) => f_G_seatArrivals_2b F  (fun x1 I => again (x1, I))  q.1 q.2) F (x1, I)
def f_G_seatArrivals (F : Nat)  (I : j_M) : Option (Int32 × j_M) := f_G_seatArrivals_2 F 0 I
set_option maxRecDepth 100000 in
set_option maxHeartbeats 4000000 in
theorem k_G_seatArrivals_51 {p : Program} {l : Launch} {e : Env} {R : Room} {s : State} {m : MethodId} {args : Array Value} {below : List Frame} {meth : Method} {c : Code} {g : j_G} {b n : Nat} {P : j_R} {F : Nat} (hF : j_Fx 0 260 P) (hn : 260 ≤ n) (X : j_X p R s m args meth c g b 2 jb_G_seatArrivals 3 "PleasureGarden" none) {kb2 : Int32 → j_M → Option (Int32 × j_M)} (hkb2 : ∀ (x1 : Int32) (I : j_M) (r : Int32 × j_M), kb2 x1 I = some r → j_W p l e R s m args below meth c 3 g b n 0 0 (j_Qv g b n P below args s r) I P 2 [some (.ref (b + 0)), some (.int x1), none] []) {x1 : Int32} {I : j_M} {r : Int32 × j_M}  (h : f_G_seatArrivals_51 F kb2 x1 I = some r) : j_W p l e R s m args below meth c 3 g b n 0 0 (j_Qv g b n P below args s r) I P 51 [some (.ref (b + 0)), some (.int x1), none] [] := by
  unfold f_G_seatArrivals_51 at h
  obtain ⟨v1, ev1, h⟩ := j_ex h
  refine j_iinc (v := v1) (lv' := [some (.ref (b + 0)), some (.int v1), none]) X jd_G_seatArrivals_51 rfl (by rw [ev1]; rfl) (by decide) rfl ?_
  refine j_goto (tgt := 2) X jd_G_seatArrivals_54 rfl ?_
  exact hkb2 _ _ _ h
set_option maxRecDepth 100000 in
set_option maxHeartbeats 4000000 in
theorem k_G_seatArrivals_2b {p : Program} {l : Launch} {e : Env} {R : Room} {s : State} {m : MethodId} {args : Array Value} {below : List Frame} {meth : Method} {c : Code} {g : j_G} {b n : Nat} {P : j_R} {F : Nat} (hF : j_Fx 0 260 P) (hn : 260 ≤ n) (X : j_X p R s m args meth c g b 2 jb_G_seatArrivals 3 "PleasureGarden" none) {kb2 : Int32 → j_M → Option (Int32 × j_M)} (hkb2 : ∀ (x1 : Int32) (I : j_M) (r : Int32 × j_M), kb2 x1 I = some r → j_W p l e R s m args below meth c 3 g b n 0 0 (j_Qv g b n P below args s r) I P 2 [some (.ref (b + 0)), some (.int x1), none] []) {x1 : Int32} {I : j_M} {r : Int32 × j_M}  (h : f_G_seatArrivals_2b F kb2 x1 I = some r) : j_W p l e R s m args below meth c 3 g b n 0 0 (j_Qv g b n P below args s r) I P 2 [some (.ref (b + 0)), some (.int x1), none] [] := by
  unfold f_G_seatArrivals_2b at h
  refine j_iload_n X jd_G_seatArrivals_2 rfl rfl ?_
  refine j_aload_n X jd_G_seatArrivals_3 rfl rfl ?_
  refine j_getr X jf_G_30 jk_0_3 js_0 (j_lt rfl hn) (jp_0_3 hF) jd_G_seatArrivals_4 ?_
  refine j_get X jf_G_124 jk_3_0 js_41 (j_lt rfl hn) jd_G_seatArrivals_7 ?_
  refine j_icmp_ge (tgt := 57) X jd_G_seatArrivals_10 rfl h (fun h => ?_) (fun h => ?_)
  · exact j_vret X rfl jd_G_seatArrivals_57 h
  · refine j_aload_n X jd_G_seatArrivals_13 rfl rfl ?_
    refine j_getr X jf_G_30 jk_0_3 js_0 (j_lt rfl hn) (jp_0_3 hF) jd_G_seatArrivals_14 ?_
    refine j_getr X jf_G_148 jk_3_1 js_41 (j_lt rfl hn) (jp_41_1 hF) jd_G_seatArrivals_17 ?_
    refine j_iload_n X jd_G_seatArrivals_20 rfl rfl ?_
    refine j_aald X rfl rfl js_42 (j_lt rfl hn) jd_G_seatArrivals_21 (fun q => ja_42 hF _ (j_ok_lt q)) h (fun hb2 h => ?_)
    refine j_astore_n (lv' := [some (.ref (b + 0)), some (.int x1), some (.ref (b + (43 + (j_ix x1))))]) X jd_G_seatArrivals_22 rfl (by decide) rfl ?_
    refine j_aload_n X jd_G_seatArrivals_23 rfl rfl ?_
    refine j_get X jf_G_152 jk_4_3 (jsp_43 (j_ok_lt hb2)) (j_ltq (j_ok_lt hb2) rfl hn) jd_G_seatArrivals_24 ?_
    refine j_iconst (v := 1) X jd_G_seatArrivals_27 (by decide) ?_
    refine j_icmp_ne (tgt := 51) X jd_G_seatArrivals_28 rfl h (fun h => ?_) (fun h => ?_)
    · refine j_aload_n X jd_G_seatArrivals_31 rfl rfl ?_
      refine j_get X jf_G_317 jk_4_5 (jsp_43 (j_ok_lt hb2)) (j_ltq (j_ok_lt hb2) rfl hn) jd_G_seatArrivals_32 ?_
      refine j_aload_n X jd_G_seatArrivals_35 rfl rfl ?_
      refine j_get X jf_G_80 jk_0_11 js_0 (j_lt rfl hn) jd_G_seatArrivals_36 ?_
      refine j_icmp_gt (tgt := 51) X jd_G_seatArrivals_39 rfl h (fun h => ?_) (fun h => ?_)
      · refine j_sub [true, true, false] (lv' := [some (.ref (b + 0)), some (.int x1), none]) rfl ?_
        exact k_G_seatArrivals_51 hF hn X hkb2 h
      · refine j_aload_n X jd_G_seatArrivals_42 rfl rfl ?_
        refine j_aload_n X jd_G_seatArrivals_43 rfl rfl ?_
        refine j_aload_n X jd_G_seatArrivals_44 rfl rfl ?_
        refine j_get X jf_G_155 jk_4_4 (jsp_43 (j_ok_lt hb2)) (j_ltq (j_ok_lt hb2) rfl hn) jd_G_seatArrivals_45 ?_
        refine j_callVv (As := [.ref (b + (43 + (j_ix x1))), .int (I (43 + (j_ix x1)) 4)]) (st := []) (c0 := 0) X h jc_G js_0 (j_lt rfl hn) ⟨jqc_G_settle, jqi_G_settle, jqv_G_settle, jqn_G⟩ jlm_G_128 jh_G_settle rfl (by decide) (by decide) (Nat.le_of_ble_eq_true rfl) ⟨Nat.zero_le _, Nat.zero_le _⟩ (fun v0 I0 h => k_G_settle (r := (v0, I0)) hF hn (j_ok_lt hb2) h) jd_G_seatArrivals_48 rfl (fun v3 I4 h => ?_)
        refine j_sub [true, true, false] (lv' := [some (.ref (b + 0)), some (.int x1), none]) rfl ?_
        exact k_G_seatArrivals_51 hF hn X hkb2 h
    · refine j_sub [true, true, false] (lv' := [some (.ref (b + 0)), some (.int x1), none]) rfl ?_
      exact k_G_seatArrivals_51 hF hn X hkb2 h
set_option maxRecDepth 100000 in
set_option maxHeartbeats 4000000 in
theorem k_G_seatArrivals_2 {p : Program} {l : Launch} {e : Env} {R : Room} {s : State} {m : MethodId} {args : Array Value} {below : List Frame} {meth : Method} {c : Code} {g : j_G} {b n : Nat} {P : j_R} {F : Nat} (hF : j_Fx 0 260 P) (hn : 260 ≤ n) (X : j_X p R s m args meth c g b 2 jb_G_seatArrivals 3 "PleasureGarden" none)  {x1 : Int32} {I : j_M} {r : Int32 × j_M} (h : f_G_seatArrivals_2 F x1 I = some r) : j_W p l e R s m args below meth c 3 g b n 0 0 (j_Qv g b n P below args s r) I P 2 [some (.ref (b + 0)), some (.int x1), none] [] := by
  refine j_loop (G := fun (q : Int32 × j_M) (r : Int32 × j_M) => j_W p l e R s m args below meth c 3 g b n 0 0 (j_Qv g b n P below args s r) q.2 P 2 [some (.ref (b + 0)), some (.int (q.1)), none] []) ?_ F (x1, I) r h
  intro again hrec0 q r h
  exact k_G_seatArrivals_2b hF hn X (fun x1 I r h => hrec0 (x1, I) r h)  h
set_option maxRecDepth 100000 in
set_option maxHeartbeats 4000000 in
theorem k_G_seatArrivals {l : Launch} {g : j_G} {b n : Nat} {P : j_R} {F : Nat} (hF : j_Fx 0 260 P) (hn : 260 ≤ n)  {I : j_M} {r : Int32 × j_M}  (h : f_G_seatArrivals F I = some r) : j_Met l g b n P 2 jy_G_seatArrivals jb_G_seatArrivals 3 none [.ref (b + 0)] I r.2 none := by
  unfold f_G_seatArrivals at h
  refine j_enter (plainFor_of_name (by decide)) (Nat.le_of_ble_eq_true rfl) [some (.ref (b + 0)), none, none] rfl ?_
  intro p e R s m args below meth c X0 hnm hRc hRs
  have X : j_X p R s m args meth c g b 2 jb_G_seatArrivals 3 "PleasureGarden" none := X0
  clear X0
  refine j_iconst (v := 0) X jd_G_seatArrivals_0 (by decide) ?_
  refine j_istore_n (lv' := [some (.ref (b + 0)), some (.int 0), none]) X jd_G_seatArrivals_1 rfl (by decide) rfl ?_
  exact k_G_seatArrivals_2 hF hn X h
-- PleasureGarden.walk(III)I
theorem jd_G_walk_0 : decode jb_G_walk 0 = .ok (.aload_n 0, 1) := by decide +kernel
theorem jd_G_walk_1 : decode jb_G_walk 1 = .ok (.getfield 10, 3) := by decide +kernel
theorem jd_G_walk_4 : decode jb_G_walk 4 = .ok (.iload_n 1, 1) := by decide +kernel
theorem jd_G_walk_5 : decode jb_G_walk 5 = .ok (.invokevirtual 103, 3) := by decide +kernel
theorem jd_G_walk_8 : decode jb_G_walk 8 = .ok (.ifCond .eq 29, 3) := by decide +kernel
theorem jd_G_walk_11 : decode jb_G_walk 11 = .ok (.aload_n 0, 1) := by decide +kernel
theorem jd_G_walk_12 : decode jb_G_walk 12 = .ok (.getfield 10, 3) := by decide +kernel
theorem jd_G_walk_15 : decode jb_G_walk 15 = .ok (.iload_n 2, 1) := by decide +kernel
theorem jd_G_walk_16 : decode jb_G_walk 16 = .ok (.invokevirtual 103, 3) := by decide +kernel
theorem jd_G_walk_19 : decode jb_G_walk 19 = .ok (.ifCond .eq 18, 3) := by decide +kernel
theorem jd_G_walk_22 : decode jb_G_walk 22 = .ok (.iload_n 1, 1) := by decide +kernel
theorem jd_G_walk_23 : decode jb_G_walk 23 = .ok (.iload_n 2, 1) := by decide +kernel
theorem jd_G_walk_24 : decode jb_G_walk 24 = .ok (.if_icmp .eq 13, 3) := by decide +kernel
theorem jd_G_walk_27 : decode jb_G_walk 27 = .ok (.iload_n 3, 1) := by decide +kernel
theorem jd_G_walk_28 : decode jb_G_walk 28 = .ok (.iconst 0, 1) := by decide +kernel
theorem jd_G_walk_29 : decode jb_G_walk 29 = .ok (.bipush 60, 2) := by decide +kernel
theorem jd_G_walk_31 : decode jb_G_walk 31 = .ok (.invokestatic 92, 3) := by decide +kernel
theorem jd_G_walk_34 : decode jb_G_walk 34 = .ok (.ifCond .ne 5, 3) := by decide +kernel
theorem jd_G_walk_37 : decode jb_G_walk 37 = .ok (.iconst (-1), 1) := by decide +kernel
theorem jd_G_walk_38 : decode jb_G_walk 38 = .ok (.ireturn, 1) := by decide +kernel
theorem jd_G_walk_39 : decode jb_G_walk 39 = .ok (.aload_n 0, 1) := by decide +kernel
theorem jd_G_walk_40 : decode jb_G_walk 40 = .ok (.getfield 10, 3) := by decide +kernel
theorem jd_G_walk_43 : decode jb_G_walk 43 = .ok (.iload_n 1, 1) := by decide +kernel
theorem jd_G_walk_44 : decode jb_G_walk 44 = .ok (.iload_n 2, 1) := by decide +kernel
theorem jd_G_walk_45 : decode jb_G_walk 45 = .ok (.iload_n 3, 1) := by decide +kernel
theorem jd_G_walk_46 : decode jb_G_walk 46 = .ok (.invokevirtual 107, 3) := by decide +kernel
theorem jd_G_walk_49 : decode jb_G_walk 49 = .ok (.ireturn, 1) := by decide +kernel
def f_G_walk (F : Nat) (x1 : Int32) (x2 : Int32) (x3 : Int32) (I : j_M) : Option (Int32 × j_M) := j_bd (f_Gr_has F x1 I) (fun v1 I2 => (if v1 = 0 then some ((-1), I2) else j_bd (f_Gr_has F x2 I2) (fun v3 I4 => (if v3 = 0 then some ((-1), I4) else (if x1 = x2 then some ((-1), I4) else j_bd (f_G_within F x3 0 60 I4) (fun v5 I6 => (if v5 = 0 then some ((-1), I6) else j_bd (f_Gr_setWalk F x1 x2 x3 I6) (fun v7 I8 => some (v7, I8)))))))))
set_option maxRecDepth 100000 in
set_option maxHeartbeats 4000000 in
theorem k_G_walk {l : Launch} {g : j_G} {b n : Nat} {P : j_R} {F : Nat} (hF : j_Fx 0 260 P) (hn : 260 ≤ n) {x1 : Int32} {x2 : Int32} {x3 : Int32} {I : j_M} {r : Int32 × j_M}  (h : f_G_walk F x1 x2 x3 I = some r) : j_Met l g b n P 3 jy_G_walk jb_G_walk 4 (some .int) [.ref (b + 0), .int x1, .int x2, .int x3] I r.2 (some (.int r.1)) := by
  unfold f_G_walk at h
  refine j_enter (plainFor_of_name (by decide)) (Nat.le_of_ble_eq_true rfl) [some (.ref (b + 0)), some (.int x1), some (.int x2), some (.int x3)] rfl ?_
  intro p e R s m args below meth c X0 hnm hRc hRs
  have X : j_X p R s m args meth c g b 3 jb_G_walk 4 "PleasureGarden" (some .int) := X0
  clear X0
  refine j_aload_n X jd_G_walk_0 rfl rfl ?_
  refine j_getr X jf_G_10 jk_0_0 js_0 (j_lt rfl hn) (jp_0_0 hF) jd_G_walk_1 ?_
  refine j_iload_n X jd_G_walk_4 rfl rfl ?_
  refine j_callVi (As := [.int x1]) (st := []) (c0 := 1) X h jc_Gr js_1 (j_lt rfl hn) ⟨jqc_Gr_has, jqi_Gr_has, jqv_Gr_has, jqn_Gr⟩ jlm_G_103 jh_Gr_has rfl (by decide) (by decide) (Nat.le_of_ble_eq_true rfl) ⟨Nat.zero_le _, Nat.zero_le _⟩ (fun v0 I0 h => k_Gr_has (r := (v0, I0)) hF.gr (j_le hn) h) jd_G_walk_5 rfl (fun v1 I2 h => ?_)
  refine j_if_eq (tgt := 37) X jd_G_walk_8 rfl h (fun h => ?_) (fun h => ?_)
  · refine j_iconst (v := (-1)) X jd_G_walk_37 (by decide) ?_
    exact j_iret X rfl jd_G_walk_38 h
  · refine j_aload_n X jd_G_walk_11 rfl rfl ?_
    refine j_getr X jf_G_10 jk_0_0 js_0 (j_lt rfl hn) (jp_0_0 hF) jd_G_walk_12 ?_
    refine j_iload_n X jd_G_walk_15 rfl rfl ?_
    refine j_callVi (As := [.int x2]) (st := []) (c0 := 1) X h jc_Gr js_1 (j_lt rfl hn) ⟨jqc_Gr_has, jqi_Gr_has, jqv_Gr_has, jqn_Gr⟩ jlm_G_103 jh_Gr_has rfl (by decide) (by decide) (Nat.le_of_ble_eq_true rfl) ⟨Nat.zero_le _, Nat.zero_le _⟩ (fun v0 I0 h => k_Gr_has (r := (v0, I0)) hF.gr (j_le hn) h) jd_G_walk_16 rfl (fun v3 I4 h => ?_)
    refine j_if_eq (tgt := 37) X jd_G_walk_19 rfl h (fun h => ?_) (fun h => ?_)
    · refine j_iconst (v := (-1)) X jd_G_walk_37 (by decide) ?_
      exact j_iret X rfl jd_G_walk_38 h
    · refine j_iload_n X jd_G_walk_22 rfl rfl ?_
      refine j_iload_n X jd_G_walk_23 rfl rfl ?_
      refine j_icmp_eq (tgt := 37) X jd_G_walk_24 rfl h (fun h => ?_) (fun h => ?_)
      · refine j_iconst (v := (-1)) X jd_G_walk_37 (by decide) ?_
        exact j_iret X rfl jd_G_walk_38 h
      · refine j_iload_n X jd_G_walk_27 rfl rfl ?_
        refine j_iconst (v := 0) X jd_G_walk_28 (by decide) ?_
        refine j_bipush (v := 60) X jd_G_walk_29 (by decide) ?_
        refine j_callSi (As := [.int x3, .int 0, .int 60]) (st := []) X h ⟨jqc_G_within, jqs_G_within, jqn_G⟩ jlm_G_92 jh_G_within.2 rfl (by decide) (by decide) (Nat.le_of_ble_eq_true rfl) ⟨Nat.zero_le _, Nat.zero_le _⟩ (fun v0 I0 h => k_G_within (r := (v0, I0)) hF hn h) jd_G_walk_31 rfl (fun v5 I6 h => ?_)
        refine j_if_ne (tgt := 39) X jd_G_walk_34 rfl h (fun h => ?_) (fun h => ?_)
        · refine j_iconst (v := (-1)) X jd_G_walk_37 (by decide) ?_
          exact j_iret X rfl jd_G_walk_38 h
        · refine j_aload_n X jd_G_walk_39 rfl rfl ?_
          refine j_getr X jf_G_10 jk_0_0 js_0 (j_lt rfl hn) (jp_0_0 hF) jd_G_walk_40 ?_
          refine j_iload_n X jd_G_walk_43 rfl rfl ?_
          refine j_iload_n X jd_G_walk_44 rfl rfl ?_
          refine j_iload_n X jd_G_walk_45 rfl rfl ?_
          refine j_callVi (As := [.int x1, .int x2, .int x3]) (st := []) (c0 := 1) X h jc_Gr js_1 (j_lt rfl hn) ⟨jqc_Gr_setWalk, jqi_Gr_setWalk, jqv_Gr_setWalk, jqn_Gr⟩ jlm_G_107 jh_Gr_setWalk rfl (by decide) (by decide) (Nat.le_of_ble_eq_true rfl) ⟨Nat.zero_le _, Nat.zero_le _⟩ (fun v0 I0 h => k_Gr_setWalk (r := (v0, I0)) hF.gr (j_le hn) h) jd_G_walk_46 rfl (fun v7 I8 h => ?_)
          exact j_iret X rfl jd_G_walk_49 h
-- PleasureGarden.light(II)I
theorem jd_G_light_0 : decode jb_G_light 0 = .ok (.aload_n 0, 1) := by decide +kernel
theorem jd_G_light_1 : decode jb_G_light 1 = .ok (.getfield 44, 3) := by decide +kernel
theorem jd_G_light_4 : decode jb_G_light 4 = .ok (.iload_n 1, 1) := by decide +kernel
theorem jd_G_light_5 : decode jb_G_light 5 = .ok (.invokevirtual 196, 3) := by decide +kernel
theorem jd_G_light_8 : decode jb_G_light 8 = .ok (.ifCond .eq 19, 3) := by decide +kernel
theorem jd_G_light_11 : decode jb_G_light 11 = .ok (.iload_n 2, 1) := by decide +kernel
theorem jd_G_light_12 : decode jb_G_light 12 = .ok (.iconst (-1), 1) := by decide +kernel
theorem jd_G_light_13 : decode jb_G_light 13 = .ok (.if_icmp .eq 16, 3) := by decide +kernel
theorem jd_G_light_16 : decode jb_G_light 16 = .ok (.aload_n 0, 1) := by decide +kernel
theorem jd_G_light_17 : decode jb_G_light 17 = .ok (.getfield 44, 3) := by decide +kernel
theorem jd_G_light_20 : decode jb_G_light 20 = .ok (.iload_n 2, 1) := by decide +kernel
theorem jd_G_light_21 : decode jb_G_light 21 = .ok (.invokevirtual 196, 3) := by decide +kernel
theorem jd_G_light_24 : decode jb_G_light 24 = .ok (.ifCond .ne 5, 3) := by decide +kernel
theorem jd_G_light_27 : decode jb_G_light 27 = .ok (.iconst (-1), 1) := by decide +kernel
theorem jd_G_light_28 : decode jb_G_light 28 = .ok (.ireturn, 1) := by decide +kernel
theorem jd_G_light_29 : decode jb_G_light 29 = .ok (.aload_n 0, 1) := by decide +kernel
theorem jd_G_light_30 : decode jb_G_light 30 = .ok (.getfield 44, 3) := by decide +kernel
theorem jd_G_light_33 : decode jb_G_light 33 = .ok (.iload_n 1, 1) := by decide +kernel
theorem jd_G_light_34 : decode jb_G_light 34 = .ok (.iload_n 2, 1) := by decide +kernel
theorem jd_G_light_35 : decode jb_G_light 35 = .ok (.iconst (-1), 1) := by decide +kernel
theorem jd_G_light_36 : decode jb_G_light 36 = .ok (.if_icmp .ne 7, 3) := by decide +kernel
theorem jd_G_light_39 : decode jb_G_light 39 = .ok (.iload_n 1, 1) := by decide +kernel
theorem jd_G_light_40 : decode jb_G_light 40 = .ok (.goto 4, 3) := by decide +kernel
theorem jd_G_light_43 : decode jb_G_light 43 = .ok (.iload_n 2, 1) := by decide +kernel
theorem jd_G_light_44 : decode jb_G_light 44 = .ok (.aload_n 0, 1) := by decide +kernel
theorem jd_G_light_45 : decode jb_G_light 45 = .ok (.getfield 80, 3) := by decide +kernel
theorem jd_G_light_48 : decode jb_G_light 48 = .ok (.invokevirtual 203, 3) := by decide +kernel
theorem jd_G_light_51 : decode jb_G_light 51 = .ok (.ireturn, 1) := by decide +kernel
def f_G_light_44 (F : Nat)  (s1 : Int32) (s2 : Int32) (I : j_M) : Option (Int32 × j_M) := j_bd (f_La_kindle F s1 s2 (I 0 11) I) (fun v1 I2 => some (v1, I2))
def f_G_light_29 (F : Nat)  (x1 : Int32) (x2 : Int32) (I : j_M) : Option (Int32 × j_M) := (if x2 = (-1) then f_G_light_44 F x1 x1 I else f_G_light_44 F x1 x2 I)
def f_G_light (F : Nat) (x1 : Int32) (x2 : Int32) (I : j_M) : Option (Int32 × j_M) := j_bd (f_La_has F x1 I) (fun v3 I4 => (if v3 = 0 then some ((-1), I4) else (if x2 = (-1) then f_G_light_29 F x1 x2 I4 else j_bd (f_La_has F x2 I4) (fun v5 I6 => (if v5 = 0 then some ((-1), I6) else f_G_light_29 F x1 x2 I6)))))
set_option maxRecDepth 100000 in
set_option maxHeartbeats 4000000 in
theorem k_G_light_44 {p : Program} {l : Launch} {e : Env} {R : Room} {s : State} {m : MethodId} {args : Array Value} {below : List Frame} {meth : Method} {c : Code} {g : j_G} {b n : Nat} {P : j_R} {F : Nat} (hF : j_Fx 0 260 P) (hn : 260 ≤ n) (X : j_X p R s m args meth c g b 3 jb_G_light 3 "PleasureGarden" (some .int))  {s1 : Int32} {s2 : Int32} {I : j_M} {r : Int32 × j_M}  (h : f_G_light_44 F s1 s2 I = some r) : j_W p l e R s m args below meth c 3 g b n 0 0 (j_Qi g b n P below args s r) I P 44 [some (.ref (b + 0)), none, none] [.int s2, .int s1, .ref (b + 150)] := by
  unfold f_G_light_44 at h
  refine j_aload_n X jd_G_light_44 rfl rfl ?_
  refine j_get X jf_G_80 jk_0_11 js_0 (j_lt rfl hn) jd_G_light_45 ?_
  refine j_callVi (As := [.int s1, .int s2, .int (I 0 11)]) (st := []) (c0 := 150) X h jc_La js_150 (j_lt rfl hn) ⟨jqc_La_kindle, jqi_La_kindle, jqv_La_kindle, jqn_La⟩ jlm_G_203 jh_La_kindle rfl (by decide) (by decide) (Nat.le_of_ble_eq_true rfl) ⟨Nat.zero_le _, Nat.zero_le _⟩ (fun v0 I0 h => k_La_kindle (r := (v0, I0)) hF hn h) jd_G_light_48 rfl (fun v1 I2 h => ?_)
  exact j_iret X rfl jd_G_light_51 h
set_option maxRecDepth 100000 in
set_option maxHeartbeats 4000000 in
theorem k_G_light_29 {p : Program} {l : Launch} {e : Env} {R : Room} {s : State} {m : MethodId} {args : Array Value} {below : List Frame} {meth : Method} {c : Code} {g : j_G} {b n : Nat} {P : j_R} {F : Nat} (hF : j_Fx 0 260 P) (hn : 260 ≤ n) (X : j_X p R s m args meth c g b 3 jb_G_light 3 "PleasureGarden" (some .int))  {x1 : Int32} {x2 : Int32} {I : j_M} {r : Int32 × j_M}  (h : f_G_light_29 F x1 x2 I = some r) : j_W p l e R s m args below meth c 3 g b n 0 0 (j_Qi g b n P below args s r) I P 29 [some (.ref (b + 0)), some (.int x1), some (.int x2)] [] := by
  unfold f_G_light_29 at h
  refine j_aload_n X jd_G_light_29 rfl rfl ?_
  refine j_getr X jf_G_44 jk_0_5 js_0 (j_lt rfl hn) (jp_0_5 hF) jd_G_light_30 ?_
  refine j_iload_n X jd_G_light_33 rfl rfl ?_
  refine j_iload_n X jd_G_light_34 rfl rfl ?_
  refine j_iconst (v := (-1)) X jd_G_light_35 (by decide) ?_
  refine j_icmp_ne (tgt := 43) X jd_G_light_36 rfl h (fun h => ?_) (fun h => ?_)
  · refine j_iload_n X jd_G_light_39 rfl rfl ?_
    refine j_goto (tgt := 44) X jd_G_light_40 rfl ?_
    refine j_sub [true, false, false] (lv' := [some (.ref (b + 0)), none, none]) rfl ?_
    exact k_G_light_44 hF hn X h
  · refine j_iload_n X jd_G_light_43 rfl rfl ?_
    refine j_sub [true, false, false] (lv' := [some (.ref (b + 0)), none, none]) rfl ?_
    exact k_G_light_44 hF hn X h
set_option maxRecDepth 100000 in
set_option maxHeartbeats 4000000 in
theorem k_G_light {l : Launch} {g : j_G} {b n : Nat} {P : j_R} {F : Nat} (hF : j_Fx 0 260 P) (hn : 260 ≤ n) {x1 : Int32} {x2 : Int32} {I : j_M} {r : Int32 × j_M}  (h : f_G_light F x1 x2 I = some r) : j_Met l g b n P 3 jy_G_light jb_G_light 3 (some .int) [.ref (b + 0), .int x1, .int x2] I r.2 (some (.int r.1)) := by
  unfold f_G_light at h
  refine j_enter (plainFor_of_name (by decide)) (Nat.le_of_ble_eq_true rfl) [some (.ref (b + 0)), some (.int x1), some (.int x2)] rfl ?_
  intro p e R s m args below meth c X0 hnm hRc hRs
  have X : j_X p R s m args meth c g b 3 jb_G_light 3 "PleasureGarden" (some .int) := X0
  clear X0
  refine j_aload_n X jd_G_light_0 rfl rfl ?_
  refine j_getr X jf_G_44 jk_0_5 js_0 (j_lt rfl hn) (jp_0_5 hF) jd_G_light_1 ?_
  refine j_iload_n X jd_G_light_4 rfl rfl ?_
  refine j_callVi (As := [.int x1]) (st := []) (c0 := 150) X h jc_La js_150 (j_lt rfl hn) ⟨jqc_La_has, jqi_La_has, jqv_La_has, jqn_La⟩ jlm_G_196 jh_La_has rfl (by decide) (by decide) (Nat.le_of_ble_eq_true rfl) ⟨Nat.zero_le _, Nat.zero_le _⟩ (fun v0 I0 h => k_La_has (r := (v0, I0)) hF hn h) jd_G_light_5 rfl (fun v3 I4 h => ?_)
  refine j_if_eq (tgt := 27) X jd_G_light_8 rfl h (fun h => ?_) (fun h => ?_)
  · refine j_iconst (v := (-1)) X jd_G_light_27 (by decide) ?_
    exact j_iret X rfl jd_G_light_28 h
  · refine j_iload_n X jd_G_light_11 rfl rfl ?_
    refine j_iconst (v := (-1)) X jd_G_light_12 (by decide) ?_
    refine j_icmp_eq (tgt := 29) X jd_G_light_13 rfl h (fun h => ?_) (fun h => ?_)
    · exact k_G_light_29 hF hn X h
    · refine j_aload_n X jd_G_light_16 rfl rfl ?_
      refine j_getr X jf_G_44 jk_0_5 js_0 (j_lt rfl hn) (jp_0_5 hF) jd_G_light_17 ?_
      refine j_iload_n X jd_G_light_20 rfl rfl ?_
      refine j_callVi (As := [.int x2]) (st := []) (c0 := 150) X h jc_La js_150 (j_lt rfl hn) ⟨jqc_La_has, jqi_La_has, jqv_La_has, jqn_La⟩ jlm_G_196 jh_La_has rfl (by decide) (by decide) (Nat.le_of_ble_eq_true rfl) ⟨Nat.zero_le _, Nat.zero_le _⟩ (fun v0 I0 h => k_La_has (r := (v0, I0)) hF hn h) jd_G_light_21 rfl (fun v5 I6 h => ?_)
      refine j_if_ne (tgt := 29) X jd_G_light_24 rfl h (fun h => ?_) (fun h => ?_)
      · refine j_iconst (v := (-1)) X jd_G_light_27 (by decide) ?_
        exact j_iret X rfl jd_G_light_28 h
      · exact k_G_light_29 hF hn X h
-- PleasureGarden.rise(I)I
theorem jd_G_rise_0 : decode jb_G_rise 0 = .ok (.aload_n 0, 1) := by decide +kernel
theorem jd_G_rise_1 : decode jb_G_rise 1 = .ok (.getfield 30, 3) := by decide +kernel
theorem jd_G_rise_4 : decode jb_G_rise 4 = .ok (.iload_n 1, 1) := by decide +kernel
theorem jd_G_rise_5 : decode jb_G_rise 5 = .ok (.invokevirtual 147, 3) := by decide +kernel
theorem jd_G_rise_8 : decode jb_G_rise 8 = .ok (.ifCond .ne 5, 3) := by decide +kernel
theorem jd_G_rise_11 : decode jb_G_rise 11 = .ok (.iconst (-1), 1) := by decide +kernel
theorem jd_G_rise_12 : decode jb_G_rise 12 = .ok (.ireturn, 1) := by decide +kernel
theorem jd_G_rise_13 : decode jb_G_rise 13 = .ok (.aload_n 0, 1) := by decide +kernel
theorem jd_G_rise_14 : decode jb_G_rise 14 = .ok (.getfield 30, 3) := by decide +kernel
theorem jd_G_rise_17 : decode jb_G_rise 17 = .ok (.getfield 148, 3) := by decide +kernel
theorem jd_G_rise_20 : decode jb_G_rise 20 = .ok (.iload_n 1, 1) := by decide +kernel
theorem jd_G_rise_21 : decode jb_G_rise 21 = .ok (.aaload, 1) := by decide +kernel
theorem jd_G_rise_22 : decode jb_G_rise 22 = .ok (.astore_n 2, 1) := by decide +kernel
theorem jd_G_rise_23 : decode jb_G_rise 23 = .ok (.aload_n 2, 1) := by decide +kernel
theorem jd_G_rise_24 : decode jb_G_rise 24 = .ok (.getfield 227, 3) := by decide +kernel
theorem jd_G_rise_27 : decode jb_G_rise 27 = .ok (.istore_n 3, 1) := by decide +kernel
theorem jd_G_rise_28 : decode jb_G_rise 28 = .ok (.iload_n 3, 1) := by decide +kernel
theorem jd_G_rise_29 : decode jb_G_rise 29 = .ok (.iconst (-1), 1) := by decide +kernel
theorem jd_G_rise_30 : decode jb_G_rise 30 = .ok (.if_icmp .ne 6, 3) := by decide +kernel
theorem jd_G_rise_33 : decode jb_G_rise 33 = .ok (.bipush (-2), 2) := by decide +kernel
theorem jd_G_rise_35 : decode jb_G_rise 35 = .ok (.ireturn, 1) := by decide +kernel
theorem jd_G_rise_36 : decode jb_G_rise 36 = .ok (.aload_n 0, 1) := by decide +kernel
theorem jd_G_rise_37 : decode jb_G_rise 37 = .ok (.aload_n 2, 1) := by decide +kernel
theorem jd_G_rise_38 : decode jb_G_rise 38 = .ok (.invokevirtual 239, 3) := by decide +kernel
theorem jd_G_rise_41 : decode jb_G_rise 41 = .ok (.iload_n 3, 1) := by decide +kernel
theorem jd_G_rise_42 : decode jb_G_rise 42 = .ok (.ireturn, 1) := by decide +kernel
def f_G_rise (F : Nat) (x1 : Int32) (I : j_M) : Option (Int32 × j_M) := j_bd (f_Gu_has F x1 I) (fun v1 I2 => (if v1 = 0 then some ((-1), I2) else (if j_ok x1 100 = true then j_let (I2 (43 + (j_ix x1)) 6) (fun v4 => (if v4 = (-1) then some ((-2), I2) else j_bd (f_G_quitBox F (j_ix x1) I2) (fun v5 I6 => some (v4, I6)))) else none)))
set_option maxRecDepth 100000 in
set_option maxHeartbeats 4000000 in
theorem k_G_rise {l : Launch} {g : j_G} {b n : Nat} {P : j_R} {F : Nat} (hF : j_Fx 0 260 P) (hn : 260 ≤ n) {x1 : Int32} {I : j_M} {r : Int32 × j_M}  (h : f_G_rise F x1 I = some r) : j_Met l g b n P 3 jy_G_rise jb_G_rise 4 (some .int) [.ref (b + 0), .int x1] I r.2 (some (.int r.1)) := by
  unfold f_G_rise at h
  refine j_enter (plainFor_of_name (by decide)) (Nat.le_of_ble_eq_true rfl) [some (.ref (b + 0)), some (.int x1), none, none] rfl ?_
  intro p e R s m args below meth c X0 hnm hRc hRs
  have X : j_X p R s m args meth c g b 3 jb_G_rise 4 "PleasureGarden" (some .int) := X0
  clear X0
  refine j_aload_n X jd_G_rise_0 rfl rfl ?_
  refine j_getr X jf_G_30 jk_0_3 js_0 (j_lt rfl hn) (jp_0_3 hF) jd_G_rise_1 ?_
  refine j_iload_n X jd_G_rise_4 rfl rfl ?_
  refine j_callVi (As := [.int x1]) (st := []) (c0 := 41) X h jc_Gu js_41 (j_lt rfl hn) ⟨jqc_Gu_has, jqi_Gu_has, jqv_Gu_has, jqn_Gu⟩ jlm_G_147 jh_Gu_has rfl (by decide) (by decide) (Nat.le_of_ble_eq_true rfl) ⟨Nat.zero_le _, Nat.zero_le _⟩ (fun v0 I0 h => k_Gu_has (r := (v0, I0)) hF hn h) jd_G_rise_5 rfl (fun v1 I2 h => ?_)
  refine j_if_ne (tgt := 13) X jd_G_rise_8 rfl h (fun h => ?_) (fun h => ?_)
  · refine j_iconst (v := (-1)) X jd_G_rise_11 (by decide) ?_
    exact j_iret X rfl jd_G_rise_12 h
  · refine j_aload_n X jd_G_rise_13 rfl rfl ?_
    refine j_getr X jf_G_30 jk_0_3 js_0 (j_lt rfl hn) (jp_0_3 hF) jd_G_rise_14 ?_
    refine j_getr X jf_G_148 jk_3_1 js_41 (j_lt rfl hn) (jp_41_1 hF) jd_G_rise_17 ?_
    refine j_iload_n X jd_G_rise_20 rfl rfl ?_
    refine j_aald X rfl rfl js_42 (j_lt rfl hn) jd_G_rise_21 (fun q => ja_42 hF _ (j_ok_lt q)) h (fun hb3 h => ?_)
    refine j_astore_n (lv' := [some (.ref (b + 0)), some (.int x1), some (.ref (b + (43 + (j_ix x1)))), none]) X jd_G_rise_22 rfl (by decide) rfl ?_
    refine j_aload_n X jd_G_rise_23 rfl rfl ?_
    refine j_get X jf_G_227 jk_4_6 (jsp_43 (j_ok_lt hb3)) (j_ltq (j_ok_lt hb3) rfl hn) jd_G_rise_24 ?_
    refine j_nm h (fun v4 h => ?_)
    refine j_istore_n (lv' := [some (.ref (b + 0)), some (.int x1), some (.ref (b + (43 + (j_ix x1)))), some (.int v4)]) X jd_G_rise_27 rfl (by decide) rfl ?_
    refine j_iload_n X jd_G_rise_28 rfl rfl ?_
    refine j_iconst (v := (-1)) X jd_G_rise_29 (by decide) ?_
    refine j_icmp_ne (tgt := 36) X jd_G_rise_30 rfl h (fun h => ?_) (fun h => ?_)
    · refine j_bipush (v := (-2)) X jd_G_rise_33 (by decide) ?_
      exact j_iret X rfl jd_G_rise_35 h
    · refine j_aload_n X jd_G_rise_36 rfl rfl ?_
      refine j_aload_n X jd_G_rise_37 rfl rfl ?_
      refine j_callVv (As := [.ref (b + (43 + (j_ix x1)))]) (st := []) (c0 := 0) X h jc_G js_0 (j_lt rfl hn) ⟨jqc_G_quitBox, jqi_G_quitBox, jqv_G_quitBox, jqn_G⟩ jlm_G_239 jh_G_quitBox rfl (by decide) (by decide) (Nat.le_of_ble_eq_true rfl) ⟨Nat.zero_le _, Nat.zero_le _⟩ (fun v0 I0 h => k_G_quitBox (r := (v0, I0)) hF hn (j_ok_lt hb3) h) jd_G_rise_38 rfl (fun v5 I6 h => ?_)
      refine j_iload_n X jd_G_rise_41 rfl rfl ?_
      exact j_iret X rfl jd_G_rise_42 h
-- PleasureGarden.setOff(LPleasureGarden$Party;II)V
theorem jd_G_setOff_0 : decode jb_G_setOff 0 = .ok (.aload_n 0, 1) := by decide +kernel
theorem jd_G_setOff_1 : decode jb_G_setOff 1 = .ok (.aload_n 1, 1) := by decide +kernel
theorem jd_G_setOff_2 : decode jb_G_setOff 2 = .ok (.invokevirtual 239, 3) := by decide +kernel
theorem jd_G_setOff_5 : decode jb_G_setOff 5 = .ok (.aload_n 0, 1) := by decide +kernel
theorem jd_G_setOff_6 : decode jb_G_setOff 6 = .ok (.getfield 37, 3) := by decide +kernel
theorem jd_G_setOff_9 : decode jb_G_setOff 9 = .ok (.aload_n 1, 1) := by decide +kernel
theorem jd_G_setOff_10 : decode jb_G_setOff 10 = .ok (.getfield 323, 3) := by decide +kernel
theorem jd_G_setOff_13 : decode jb_G_setOff 13 = .ok (.invokevirtual 326, 3) := by decide +kernel
theorem jd_G_setOff_16 : decode jb_G_setOff 16 = .ok (.iload_n 3, 1) := by decide +kernel
theorem jd_G_setOff_17 : decode jb_G_setOff 17 = .ok (.ifCond .ne 10, 3) := by decide +kernel
theorem jd_G_setOff_20 : decode jb_G_setOff 20 = .ok (.aload_n 0, 1) := by decide +kernel
theorem jd_G_setOff_21 : decode jb_G_setOff 21 = .ok (.aload_n 1, 1) := by decide +kernel
theorem jd_G_setOff_22 : decode jb_G_setOff 22 = .ok (.iload_n 2, 1) := by decide +kernel
theorem jd_G_setOff_23 : decode jb_G_setOff 23 = .ok (.invokevirtual 128, 3) := by decide +kernel
theorem jd_G_setOff_26 : decode jb_G_setOff 26 = .ok (.return_, 1) := by decide +kernel
theorem jd_G_setOff_27 : decode jb_G_setOff 27 = .ok (.aload_n 1, 1) := by decide +kernel
theorem jd_G_setOff_28 : decode jb_G_setOff 28 = .ok (.iconst 1, 1) := by decide +kernel
theorem jd_G_setOff_29 : decode jb_G_setOff 29 = .ok (.putfield 152, 3) := by decide +kernel
theorem jd_G_setOff_32 : decode jb_G_setOff 32 = .ok (.aload_n 1, 1) := by decide +kernel
theorem jd_G_setOff_33 : decode jb_G_setOff 33 = .ok (.iload_n 2, 1) := by decide +kernel
theorem jd_G_setOff_34 : decode jb_G_setOff 34 = .ok (.putfield 155, 3) := by decide +kernel
theorem jd_G_setOff_37 : decode jb_G_setOff 37 = .ok (.aload_n 1, 1) := by decide +kernel
theorem jd_G_setOff_38 : decode jb_G_setOff 38 = .ok (.aload_n 0, 1) := by decide +kernel
theorem jd_G_setOff_39 : decode jb_G_setOff 39 = .ok (.getfield 80, 3) := by decide +kernel
theorem jd_G_setOff_42 : decode jb_G_setOff 42 = .ok (.iload_n 3, 1) := by decide +kernel
theorem jd_G_setOff_43 : decode jb_G_setOff 43 = .ok (.iadd, 1) := by decide +kernel
theorem jd_G_setOff_44 : decode jb_G_setOff 44 = .ok (.putfield 317, 3) := by decide +kernel
theorem jd_G_setOff_47 : decode jb_G_setOff 47 = .ok (.return_, 1) := by decide +kernel
def f_G_setOff (F : Nat) (x1 : Nat) (x2 : Int32) (x3 : Int32) (I : j_M) : Option (Int32 × j_M) := j_bd (f_G_quitBox F x1 I) (fun v1 I2 => j_bd (f_Wa_endStay F (I2 (43 + x1) 11) I2) (fun v3 I4 => (if x3 = 0 then j_bd (f_G_settle F x1 x2 I4) (fun v5 I6 => some (0, I6)) else j_let (j_wr I4 (43 + x1) 3 1) (fun I7 => j_let (j_wr I7 (43 + x1) 4 x2) (fun I8 => j_let (j_wr I8 (43 + x1) 5 ((I8 0 11) + x3)) (fun I9 => some (0, I9)))))))
set_option maxRecDepth 100000 in
set_option maxHeartbeats 4000000 in
theorem k_G_setOff {l : Launch} {g : j_G} {b n : Nat} {P : j_R} {F : Nat} (hF : j_Fx 0 260 P) (hn : 260 ≤ n) {x1 : Nat} {x2 : Int32} {x3 : Int32} {I : j_M} {r : Int32 × j_M} (hx1 : x1 < 100) (h : f_G_setOff F x1 x2 x3 I = some r) : j_Met l g b n P 3 jy_G_setOff jb_G_setOff 4 none [.ref (b + 0), .ref (b + (43 + x1)), .int x2, .int x3] I r.2 none := by
  unfold f_G_setOff at h
  refine j_enter (plainFor_of_name (by decide)) (Nat.le_of_ble_eq_true rfl) [some (.ref (b + 0)), some (.ref (b + (43 + x1))), some (.int x2), some (.int x3)] rfl ?_
  intro p e R s m args below meth c X0 hnm hRc hRs
  have X : j_X p R s m args meth c g b 3 jb_G_setOff 4 "PleasureGarden" none := X0
  clear X0
  refine j_aload_n X jd_G_setOff_0 rfl rfl ?_
  refine j_aload_n X jd_G_setOff_1 rfl rfl ?_
  refine j_callVv (As := [.ref (b + (43 + x1))]) (st := []) (c0 := 0) X h jc_G js_0 (j_lt rfl hn) ⟨jqc_G_quitBox, jqi_G_quitBox, jqv_G_quitBox, jqn_G⟩ jlm_G_239 jh_G_quitBox rfl (by decide) (by decide) (Nat.le_of_ble_eq_true rfl) ⟨Nat.zero_le _, Nat.zero_le _⟩ (fun v0 I0 h => k_G_quitBox (r := (v0, I0)) hF hn hx1 h) jd_G_setOff_2 rfl (fun v1 I2 h => ?_)
  refine j_aload_n X jd_G_setOff_5 rfl rfl ?_
  refine j_getr X jf_G_37 jk_0_4 js_0 (j_lt rfl hn) (jp_0_4 hF) jd_G_setOff_6 ?_
  refine j_aload_n X jd_G_setOff_9 rfl rfl ?_
  refine j_get X jf_G_323 jk_4_11 (jsp_43 hx1) (j_ltq hx1 rfl hn) jd_G_setOff_10 ?_
  refine j_callVv (As := [.int (I2 (43 + x1) 11)]) (st := []) (c0 := 143) X h jc_Wa js_143 (j_lt rfl hn) ⟨jqc_Wa_endStay, jqi_Wa_endStay, jqv_Wa_endStay, jqn_Wa⟩ jlm_G_326 jh_Wa_endStay rfl (by decide) (by decide) (Nat.le_of_ble_eq_true rfl) ⟨Nat.zero_le _, Nat.zero_le _⟩ (fun v0 I0 h => k_Wa_endStay (r := (v0, I0)) hF hn h) jd_G_setOff_13 rfl (fun v3 I4 h => ?_)
  refine j_iload_n X jd_G_setOff_16 rfl rfl ?_
  refine j_if_ne (tgt := 27) X jd_G_setOff_17 rfl h (fun h => ?_) (fun h => ?_)
  · refine j_aload_n X jd_G_setOff_20 rfl rfl ?_
    refine j_aload_n X jd_G_setOff_21 rfl rfl ?_
    refine j_iload_n X jd_G_setOff_22 rfl rfl ?_
    refine j_callVv (As := [.ref (b + (43 + x1)), .int x2]) (st := []) (c0 := 0) X h jc_G js_0 (j_lt rfl hn) ⟨jqc_G_settle, jqi_G_settle, jqv_G_settle, jqn_G⟩ jlm_G_128 jh_G_settle rfl (by decide) (by decide) (Nat.le_of_ble_eq_true rfl) ⟨Nat.zero_le _, Nat.zero_le _⟩ (fun v0 I0 h => k_G_settle (r := (v0, I0)) hF hn hx1 h) jd_G_setOff_23 rfl (fun v5 I6 h => ?_)
    exact j_vret X rfl jd_G_setOff_26 h
  · refine j_aload_n X jd_G_setOff_27 rfl rfl ?_
    refine j_iconst (v := 1) X jd_G_setOff_28 (by decide) ?_
    refine j_puti X jt_Pa jto_Pa jn_Pa jf_G_152 jk_4_3 (jsp_43 hx1) (j_ltq hx1 rfl hn) (Or.inl rfl) rfl jd_G_setOff_29 ?_
    refine j_mem h (fun I7 h => ?_)
    refine j_aload_n X jd_G_setOff_32 rfl rfl ?_
    refine j_iload_n X jd_G_setOff_33 rfl rfl ?_
    refine j_puti X jt_Pa jto_Pa jn_Pa jf_G_155 jk_4_4 (jsp_43 hx1) (j_ltq hx1 rfl hn) (Or.inl rfl) rfl jd_G_setOff_34 ?_
    refine j_mem h (fun I8 h => ?_)
    refine j_aload_n X jd_G_setOff_37 rfl rfl ?_
    refine j_aload_n X jd_G_setOff_38 rfl rfl ?_
    refine j_get X jf_G_80 jk_0_11 js_0 (j_lt rfl hn) jd_G_setOff_39 ?_
    refine j_iload_n X jd_G_setOff_42 rfl rfl ?_
    refine j_iadd X jd_G_setOff_43 ?_
    refine j_puti X jt_Pa jto_Pa jn_Pa jf_G_317 jk_4_5 (jsp_43 hx1) (j_ltq hx1 rfl hn) (Or.inl rfl) rfl jd_G_setOff_44 ?_
    refine j_mem h (fun I9 h => ?_)
    exact j_vret X rfl jd_G_setOff_47 h
-- PleasureGarden.go(II)I
theorem jd_G_go_0 : decode jb_G_go 0 = .ok (.aload_n 0, 1) := by decide +kernel
theorem jd_G_go_1 : decode jb_G_go 1 = .ok (.getfield 30, 3) := by decide +kernel
theorem jd_G_go_4 : decode jb_G_go 4 = .ok (.iload_n 1, 1) := by decide +kernel
theorem jd_G_go_5 : decode jb_G_go 5 = .ok (.invokevirtual 147, 3) := by decide +kernel
theorem jd_G_go_8 : decode jb_G_go 8 = .ok (.ifCond .eq 14, 3) := by decide +kernel
theorem jd_G_go_11 : decode jb_G_go 11 = .ok (.aload_n 0, 1) := by decide +kernel
theorem jd_G_go_12 : decode jb_G_go 12 = .ok (.getfield 10, 3) := by decide +kernel
theorem jd_G_go_15 : decode jb_G_go 15 = .ok (.iload_n 2, 1) := by decide +kernel
theorem jd_G_go_16 : decode jb_G_go 16 = .ok (.invokevirtual 103, 3) := by decide +kernel
theorem jd_G_go_19 : decode jb_G_go 19 = .ok (.ifCond .ne 5, 3) := by decide +kernel
theorem jd_G_go_22 : decode jb_G_go 22 = .ok (.iconst (-1), 1) := by decide +kernel
theorem jd_G_go_23 : decode jb_G_go 23 = .ok (.ireturn, 1) := by decide +kernel
theorem jd_G_go_24 : decode jb_G_go 24 = .ok (.aload_n 0, 1) := by decide +kernel
theorem jd_G_go_25 : decode jb_G_go 25 = .ok (.getfield 30, 3) := by decide +kernel
theorem jd_G_go_28 : decode jb_G_go 28 = .ok (.getfield 148, 3) := by decide +kernel
theorem jd_G_go_31 : decode jb_G_go 31 = .ok (.iload_n 1, 1) := by decide +kernel
theorem jd_G_go_32 : decode jb_G_go 32 = .ok (.aaload, 1) := by decide +kernel
theorem jd_G_go_33 : decode jb_G_go 33 = .ok (.astore_n 3, 1) := by decide +kernel
theorem jd_G_go_34 : decode jb_G_go 34 = .ok (.aload_n 3, 1) := by decide +kernel
theorem jd_G_go_35 : decode jb_G_go 35 = .ok (.getfield 152, 3) := by decide +kernel
theorem jd_G_go_38 : decode jb_G_go 38 = .ok (.ifCond .ne 11, 3) := by decide +kernel
theorem jd_G_go_41 : decode jb_G_go 41 = .ok (.aload_n 3, 1) := by decide +kernel
theorem jd_G_go_42 : decode jb_G_go 42 = .ok (.getfield 155, 3) := by decide +kernel
theorem jd_G_go_45 : decode jb_G_go 45 = .ok (.iload_n 2, 1) := by decide +kernel
theorem jd_G_go_46 : decode jb_G_go 46 = .ok (.if_icmp .ne 6, 3) := by decide +kernel
theorem jd_G_go_49 : decode jb_G_go 49 = .ok (.bipush (-2), 2) := by decide +kernel
theorem jd_G_go_51 : decode jb_G_go 51 = .ok (.ireturn, 1) := by decide +kernel
theorem jd_G_go_52 : decode jb_G_go 52 = .ok (.aload_n 0, 1) := by decide +kernel
theorem jd_G_go_53 : decode jb_G_go 53 = .ok (.getfield 10, 3) := by decide +kernel
theorem jd_G_go_56 : decode jb_G_go 56 = .ok (.aload_n 3, 1) := by decide +kernel
theorem jd_G_go_57 : decode jb_G_go 57 = .ok (.getfield 155, 3) := by decide +kernel
theorem jd_G_go_60 : decode jb_G_go 60 = .ok (.iload_n 2, 1) := by decide +kernel
theorem jd_G_go_61 : decode jb_G_go 61 = .ok (.invokevirtual 111, 3) := by decide +kernel
theorem jd_G_go_64 : decode jb_G_go 64 = .ok (.istore 4, 2) := by decide +kernel
theorem jd_G_go_66 : decode jb_G_go 66 = .ok (.iload 4, 2) := by decide +kernel
theorem jd_G_go_68 : decode jb_G_go 68 = .ok (.ldc 115, 2) := by decide +kernel
theorem jd_G_go_70 : decode jb_G_go 70 = .ok (.if_icmp .lt 6, 3) := by decide +kernel
theorem jd_G_go_73 : decode jb_G_go 73 = .ok (.bipush (-4), 2) := by decide +kernel
theorem jd_G_go_75 : decode jb_G_go 75 = .ok (.ireturn, 1) := by decide +kernel
theorem jd_G_go_76 : decode jb_G_go 76 = .ok (.aload_n 0, 1) := by decide +kernel
theorem jd_G_go_77 : decode jb_G_go 77 = .ok (.aload_n 3, 1) := by decide +kernel
theorem jd_G_go_78 : decode jb_G_go 78 = .ok (.iload_n 2, 1) := by decide +kernel
theorem jd_G_go_79 : decode jb_G_go 79 = .ok (.iload 4, 2) := by decide +kernel
theorem jd_G_go_81 : decode jb_G_go 81 = .ok (.invokevirtual 158, 3) := by decide +kernel
theorem jd_G_go_84 : decode jb_G_go 84 = .ok (.iload 4, 2) := by decide +kernel
theorem jd_G_go_86 : decode jb_G_go 86 = .ok (.ireturn, 1) := by decide +kernel
def f_G_go (F : Nat) (x1 : Int32) (x2 : Int32) (I : j_M) : Option (Int32 × j_M) := j_bd (f_Gu_has F x1 I) (fun v1 I2 => (if v1 = 0 then some ((-1), I2) else j_bd (f_Gr_has F x2 I2) (fun v3 I4 => (if v3 = 0 then some ((-1), I4) else (if j_ok x1 100 = true then (if (I4 (43 + (j_ix x1)) 3) = 0 then (if (I4 (43 + (j_ix x1)) 4) = x2 then some ((-2), I4) else j_bd (f_Gr_minutesBetween F (I4 (43 + (j_ix x1)) 4) x2 I4) (fun v6 I7 => (if v6 < 1000000 then j_bd (f_G_setOff F (j_ix x1) x2 v6 I7) (fun v8 I9 => some (v6, I9)) else some ((-4), I7)))) else some ((-2), I4)) else none)))))
set_option maxRecDepth 100000 in
set_option maxHeartbeats 4000000 in
theorem k_G_go {l : Launch} {g : j_G} {b n : Nat} {P : j_R} {F : Nat} (hF : j_Fx 0 260 P) (hn : 260 ≤ n) {x1 : Int32} {x2 : Int32} {I : j_M} {r : Int32 × j_M}  (h : f_G_go F x1 x2 I = some r) : j_Met l g b n P 4 jy_G_go jb_G_go 5 (some .int) [.ref (b + 0), .int x1, .int x2] I r.2 (some (.int r.1)) := by
  unfold f_G_go at h
  refine j_enter (plainFor_of_name (by decide)) (Nat.le_of_ble_eq_true rfl) [some (.ref (b + 0)), some (.int x1), some (.int x2), none, none] rfl ?_
  intro p e R s m args below meth c X0 hnm hRc hRs
  have X : j_X p R s m args meth c g b 4 jb_G_go 5 "PleasureGarden" (some .int) := X0
  clear X0
  refine j_aload_n X jd_G_go_0 rfl rfl ?_
  refine j_getr X jf_G_30 jk_0_3 js_0 (j_lt rfl hn) (jp_0_3 hF) jd_G_go_1 ?_
  refine j_iload_n X jd_G_go_4 rfl rfl ?_
  refine j_callVi (As := [.int x1]) (st := []) (c0 := 41) X h jc_Gu js_41 (j_lt rfl hn) ⟨jqc_Gu_has, jqi_Gu_has, jqv_Gu_has, jqn_Gu⟩ jlm_G_147 jh_Gu_has rfl (by decide) (by decide) (Nat.le_of_ble_eq_true rfl) ⟨Nat.zero_le _, Nat.zero_le _⟩ (fun v0 I0 h => k_Gu_has (r := (v0, I0)) hF hn h) jd_G_go_5 rfl (fun v1 I2 h => ?_)
  refine j_if_eq (tgt := 22) X jd_G_go_8 rfl h (fun h => ?_) (fun h => ?_)
  · refine j_iconst (v := (-1)) X jd_G_go_22 (by decide) ?_
    exact j_iret X rfl jd_G_go_23 h
  · refine j_aload_n X jd_G_go_11 rfl rfl ?_
    refine j_getr X jf_G_10 jk_0_0 js_0 (j_lt rfl hn) (jp_0_0 hF) jd_G_go_12 ?_
    refine j_iload_n X jd_G_go_15 rfl rfl ?_
    refine j_callVi (As := [.int x2]) (st := []) (c0 := 1) X h jc_Gr js_1 (j_lt rfl hn) ⟨jqc_Gr_has, jqi_Gr_has, jqv_Gr_has, jqn_Gr⟩ jlm_G_103 jh_Gr_has rfl (by decide) (by decide) (Nat.le_of_ble_eq_true rfl) ⟨Nat.zero_le _, Nat.zero_le _⟩ (fun v0 I0 h => k_Gr_has (r := (v0, I0)) hF.gr (j_le hn) h) jd_G_go_16 rfl (fun v3 I4 h => ?_)
    refine j_if_ne (tgt := 24) X jd_G_go_19 rfl h (fun h => ?_) (fun h => ?_)
    · refine j_iconst (v := (-1)) X jd_G_go_22 (by decide) ?_
      exact j_iret X rfl jd_G_go_23 h
    · refine j_aload_n X jd_G_go_24 rfl rfl ?_
      refine j_getr X jf_G_30 jk_0_3 js_0 (j_lt rfl hn) (jp_0_3 hF) jd_G_go_25 ?_
      refine j_getr X jf_G_148 jk_3_1 js_41 (j_lt rfl hn) (jp_41_1 hF) jd_G_go_28 ?_
      refine j_iload_n X jd_G_go_31 rfl rfl ?_
      refine j_aald X rfl rfl js_42 (j_lt rfl hn) jd_G_go_32 (fun q => ja_42 hF _ (j_ok_lt q)) h (fun hb5 h => ?_)
      refine j_astore_n (lv' := [some (.ref (b + 0)), some (.int x1), some (.int x2), some (.ref (b + (43 + (j_ix x1)))), none]) X jd_G_go_33 rfl (by decide) rfl ?_
      refine j_aload_n X jd_G_go_34 rfl rfl ?_
      refine j_get X jf_G_152 jk_4_3 (jsp_43 (j_ok_lt hb5)) (j_ltq (j_ok_lt hb5) rfl hn) jd_G_go_35 ?_
      refine j_if_ne (tgt := 49) X jd_G_go_38 rfl h (fun h => ?_) (fun h => ?_)
      · refine j_aload_n X jd_G_go_41 rfl rfl ?_
        refine j_get X jf_G_155 jk_4_4 (jsp_43 (j_ok_lt hb5)) (j_ltq (j_ok_lt hb5) rfl hn) jd_G_go_42 ?_
        refine j_iload_n X jd_G_go_45 rfl rfl ?_
        refine j_icmp_ne (tgt := 52) X jd_G_go_46 rfl h (fun h => ?_) (fun h => ?_)
        · refine j_bipush (v := (-2)) X jd_G_go_49 (by decide) ?_
          exact j_iret X rfl jd_G_go_51 h
        · refine j_aload_n X jd_G_go_52 rfl rfl ?_
          refine j_getr X jf_G_10 jk_0_0 js_0 (j_lt rfl hn) (jp_0_0 hF) jd_G_go_53 ?_
          refine j_aload_n X jd_G_go_56 rfl rfl ?_
          refine j_get X jf_G_155 jk_4_4 (jsp_43 (j_ok_lt hb5)) (j_ltq (j_ok_lt hb5) rfl hn) jd_G_go_57 ?_
          refine j_iload_n X jd_G_go_60 rfl rfl ?_
          refine j_callVi (As := [.int (I4 (43 + (j_ix x1)) 4), .int x2]) (st := []) (c0 := 1) X h jc_Gr js_1 (j_lt rfl hn) ⟨jqc_Gr_minutesBetween, jqi_Gr_minutesBetween, jqv_Gr_minutesBetween, jqn_Gr⟩ jlm_G_111 jh_Gr_minutesBetween rfl (by decide) (by decide) (Nat.le_of_ble_eq_true rfl) ⟨Nat.zero_le _, Nat.zero_le _⟩ (fun v0 I0 h => k_Gr_minutesBetween (r := (v0, I0)) hF.gr (j_le hn) h) jd_G_go_61 rfl (fun v6 I7 h => ?_)
          refine j_istore (lv' := [some (.ref (b + 0)), some (.int x1), some (.int x2), some (.ref (b + (43 + (j_ix x1)))), some (.int v6)]) X jd_G_go_64 (by decide) rfl ?_
          refine j_iload X jd_G_go_66 rfl ?_
          refine j_ldc (v := 1000000) X jlc_G_115 jd_G_go_68 ?_
          refine j_icmp_lt (tgt := 76) X jd_G_go_70 rfl h (fun h => ?_) (fun h => ?_)
          · refine j_aload_n X jd_G_go_76 rfl rfl ?_
            refine j_aload_n X jd_G_go_77 rfl rfl ?_
            refine j_iload_n X jd_G_go_78 rfl rfl ?_
            refine j_iload X jd_G_go_79 rfl ?_
            refine j_callVv (As := [.ref (b + (43 + (j_ix x1))), .int x2, .int v6]) (st := []) (c0 := 0) X h jc_G js_0 (j_lt rfl hn) ⟨jqc_G_setOff, jqi_G_setOff, jqv_G_setOff, jqn_G⟩ jlm_G_158 jh_G_setOff rfl (by decide) (by decide) (Nat.le_of_ble_eq_true rfl) ⟨Nat.zero_le _, Nat.zero_le _⟩ (fun v0 I0 h => k_G_setOff (r := (v0, I0)) hF hn (j_ok_lt hb5) h) jd_G_go_81 rfl (fun v8 I9 h => ?_)
            refine j_iload X jd_G_go_84 rfl ?_
            exact j_iret X rfl jd_G_go_86 h
          · refine j_bipush (v := (-4)) X jd_G_go_73 (by decide) ?_
            exact j_iret X rfl jd_G_go_75 h
      · refine j_bipush (v := (-2)) X jd_G_go_49 (by decide) ?_
        exact j_iret X rfl jd_G_go_51 h
-- PleasureGarden.best(I)I
theorem jd_G_best_0 : decode jb_G_best 0 = .ok (.iload_n 1, 1) := by decide +kernel
theorem jd_G_best_1 : decode jb_G_best 1 = .ok (.iconst 1, 1) := by decide +kernel
theorem jd_G_best_2 : decode jb_G_best 2 = .ok (.iconst 2, 1) := by decide +kernel
theorem jd_G_best_3 : decode jb_G_best 3 = .ok (.invokestatic 92, 3) := by decide +kernel
theorem jd_G_best_6 : decode jb_G_best 6 = .ok (.ifCond .ne 5, 3) := by decide +kernel
theorem jd_G_best_9 : decode jb_G_best 9 = .ok (.iconst (-1), 1) := by decide +kernel
theorem jd_G_best_10 : decode jb_G_best 10 = .ok (.ireturn, 1) := by decide +kernel
theorem jd_G_best_11 : decode jb_G_best 11 = .ok (.aload_n 0, 1) := by decide +kernel
theorem jd_G_best_12 : decode jb_G_best 12 = .ok (.getfield 44, 3) := by decide +kernel
theorem jd_G_best_15 : decode jb_G_best 15 = .ok (.getfield 192, 3) := by decide +kernel
theorem jd_G_best_18 : decode jb_G_best 18 = .ok (.iload_n 1, 1) := by decide +kernel
theorem jd_G_best_19 : decode jb_G_best 19 = .ok (.if_icmp .ge 8, 3) := by decide +kernel
theorem jd_G_best_22 : decode jb_G_best 22 = .ok (.bipush (-2), 2) := by decide +kernel
theorem jd_G_best_24 : decode jb_G_best 24 = .ok (.goto 11, 3) := by decide +kernel
theorem jd_G_best_27 : decode jb_G_best 27 = .ok (.aload_n 0, 1) := by decide +kernel
theorem jd_G_best_28 : decode jb_G_best 28 = .ok (.getfield 44, 3) := by decide +kernel
theorem jd_G_best_31 : decode jb_G_best 31 = .ok (.iload_n 1, 1) := by decide +kernel
theorem jd_G_best_32 : decode jb_G_best 32 = .ok (.invokevirtual 219, 3) := by decide +kernel
theorem jd_G_best_35 : decode jb_G_best 35 = .ok (.ireturn, 1) := by decide +kernel
def f_G_best (F : Nat) (x1 : Int32) (I : j_M) : Option (Int32 × j_M) := j_bd (f_G_within F x1 1 2 I) (fun v1 I2 => (if v1 = 0 then some ((-1), I2) else (if x1 ≤ (I2 150 0) then j_bd (f_La_bestStart F x1 I2) (fun v3 I4 => some (v3, I4)) else some ((-2), I2))))
set_option maxRecDepth 100000 in
set_option maxHeartbeats 4000000 in
theorem k_G_best {l : Launch} {g : j_G} {b n : Nat} {P : j_R} {F : Nat} (hF : j_Fx 0 260 P) (hn : 260 ≤ n) {x1 : Int32} {I : j_M} {r : Int32 × j_M}  (h : f_G_best F x1 I = some r) : j_Met l g b n P 4 jy_G_best jb_G_best 2 (some .int) [.ref (b + 0), .int x1] I r.2 (some (.int r.1)) := by
  unfold f_G_best at h
  refine j_enter (plainFor_of_name (by decide)) (Nat.le_of_ble_eq_true rfl) [some (.ref (b + 0)), some (.int x1)] rfl ?_
  intro p e R s m args below meth c X0 hnm hRc hRs
  have X : j_X p R s m args meth c g b 4 jb_G_best 2 "PleasureGarden" (some .int) := X0
  clear X0
  refine j_iload_n X jd_G_best_0 rfl rfl ?_
  refine j_iconst (v := 1) X jd_G_best_1 (by decide) ?_
  refine j_iconst (v := 2) X jd_G_best_2 (by decide) ?_
  refine j_callSi (As := [.int x1, .int 1, .int 2]) (st := []) X h ⟨jqc_G_within, jqs_G_within, jqn_G⟩ jlm_G_92 jh_G_within.2 rfl (by decide) (by decide) (Nat.le_of_ble_eq_true rfl) ⟨Nat.zero_le _, Nat.zero_le _⟩ (fun v0 I0 h => k_G_within (r := (v0, I0)) hF hn h) jd_G_best_3 rfl (fun v1 I2 h => ?_)
  refine j_if_ne (tgt := 11) X jd_G_best_6 rfl h (fun h => ?_) (fun h => ?_)
  · refine j_iconst (v := (-1)) X jd_G_best_9 (by decide) ?_
    exact j_iret X rfl jd_G_best_10 h
  · refine j_aload_n X jd_G_best_11 rfl rfl ?_
    refine j_getr X jf_G_44 jk_0_5 js_0 (j_lt rfl hn) (jp_0_5 hF) jd_G_best_12 ?_
    refine j_get X jf_G_192 jk_6_0 js_150 (j_lt rfl hn) jd_G_best_15 ?_
    refine j_iload_n X jd_G_best_18 rfl rfl ?_
    refine j_icmp_ge (tgt := 27) X jd_G_best_19 rfl h (fun h => ?_) (fun h => ?_)
    · refine j_aload_n X jd_G_best_27 rfl rfl ?_
      refine j_getr X jf_G_44 jk_0_5 js_0 (j_lt rfl hn) (jp_0_5 hF) jd_G_best_28 ?_
      refine j_iload_n X jd_G_best_31 rfl rfl ?_
      refine j_callVi (As := [.int x1]) (st := []) (c0 := 150) X h jc_La js_150 (j_lt rfl hn) ⟨jqc_La_bestStart, jqi_La_bestStart, jqv_La_bestStart, jqn_La⟩ jlm_G_219 jh_La_bestStart rfl (by decide) (by decide) (Nat.le_of_ble_eq_true rfl) ⟨Nat.zero_le _, Nat.zero_le _⟩ (fun v0 I0 h => k_La_bestStart (r := (v0, I0)) hF hn h) jd_G_best_32 rfl (fun v3 I4 h => ?_)
      exact j_iret X rfl jd_G_best_35 h
    · refine j_bipush (v := (-2)) X jd_G_best_22 (by decide) ?_
      refine j_goto (tgt := 35) X jd_G_best_24 rfl ?_
      exact j_iret X rfl jd_G_best_35 h
-- PleasureGarden.seekShelter()V
theorem jd_G_seekShelter_0 : decode jb_G_seekShelter 0 = .ok (.iconst 0, 1) := by decide +kernel
theorem jd_G_seekShelter_1 : decode jb_G_seekShelter 1 = .ok (.istore_n 1, 1) := by decide +kernel
theorem jd_G_seekShelter_2 : decode jb_G_seekShelter 2 = .ok (.iload_n 1, 1) := by decide +kernel
theorem jd_G_seekShelter_3 : decode jb_G_seekShelter 3 = .ok (.aload_n 0, 1) := by decide +kernel
theorem jd_G_seekShelter_4 : decode jb_G_seekShelter 4 = .ok (.getfield 30, 3) := by decide +kernel
theorem jd_G_seekShelter_7 : decode jb_G_seekShelter 7 = .ok (.getfield 124, 3) := by decide +kernel
theorem jd_G_seekShelter_10 : decode jb_G_seekShelter 10 = .ok (.if_icmp .ge 101, 3) := by decide +kernel
theorem jd_G_seekShelter_13 : decode jb_G_seekShelter 13 = .ok (.aload_n 0, 1) := by decide +kernel
theorem jd_G_seekShelter_14 : decode jb_G_seekShelter 14 = .ok (.getfield 30, 3) := by decide +kernel
theorem jd_G_seekShelter_17 : decode jb_G_seekShelter 17 = .ok (.getfield 148, 3) := by decide +kernel
theorem jd_G_seekShelter_20 : decode jb_G_seekShelter 20 = .ok (.iload_n 1, 1) := by decide +kernel
theorem jd_G_seekShelter_21 : decode jb_G_seekShelter 21 = .ok (.aaload, 1) := by decide +kernel
theorem jd_G_seekShelter_22 : decode jb_G_seekShelter 22 = .ok (.astore_n 2, 1) := by decide +kernel
theorem jd_G_seekShelter_23 : decode jb_G_seekShelter 23 = .ok (.aload_n 2, 1) := by decide +kernel
theorem jd_G_seekShelter_24 : decode jb_G_seekShelter 24 = .ok (.getfield 152, 3) := by decide +kernel
theorem jd_G_seekShelter_27 : decode jb_G_seekShelter 27 = .ok (.ifCond .ne 29, 3) := by decide +kernel
theorem jd_G_seekShelter_30 : decode jb_G_seekShelter 30 = .ok (.aload_n 2, 1) := by decide +kernel
theorem jd_G_seekShelter_31 : decode jb_G_seekShelter 31 = .ok (.getfield 227, 3) := by decide +kernel
theorem jd_G_seekShelter_34 : decode jb_G_seekShelter 34 = .ok (.iconst (-1), 1) := by decide +kernel
theorem jd_G_seekShelter_35 : decode jb_G_seekShelter 35 = .ok (.if_icmp .ne 21, 3) := by decide +kernel
theorem jd_G_seekShelter_38 : decode jb_G_seekShelter 38 = .ok (.aload_n 0, 1) := by decide +kernel
theorem jd_G_seekShelter_39 : decode jb_G_seekShelter 39 = .ok (.getfield 10, 3) := by decide +kernel
theorem jd_G_seekShelter_42 : decode jb_G_seekShelter 42 = .ok (.aload_n 2, 1) := by decide +kernel
theorem jd_G_seekShelter_43 : decode jb_G_seekShelter 43 = .ok (.getfield 155, 3) := by decide +kernel
theorem jd_G_seekShelter_46 : decode jb_G_seekShelter 46 = .ok (.invokevirtual 336, 3) := by decide +kernel
theorem jd_G_seekShelter_49 : decode jb_G_seekShelter 49 = .ok (.ifCond .eq 7, 3) := by decide +kernel
theorem jd_G_seekShelter_52 : decode jb_G_seekShelter 52 = .ok (.iconst 1, 1) := by decide +kernel
theorem jd_G_seekShelter_53 : decode jb_G_seekShelter 53 = .ok (.goto 4, 3) := by decide +kernel
theorem jd_G_seekShelter_56 : decode jb_G_seekShelter 56 = .ok (.iconst 0, 1) := by decide +kernel
theorem jd_G_seekShelter_57 : decode jb_G_seekShelter 57 = .ok (.istore_n 3, 1) := by decide +kernel
theorem jd_G_seekShelter_58 : decode jb_G_seekShelter 58 = .ok (.iload_n 3, 1) := by decide +kernel
theorem jd_G_seekShelter_59 : decode jb_G_seekShelter 59 = .ok (.ifCond .eq 17, 3) := by decide +kernel
theorem jd_G_seekShelter_62 : decode jb_G_seekShelter 62 = .ok (.aload_n 0, 1) := by decide +kernel
theorem jd_G_seekShelter_63 : decode jb_G_seekShelter 63 = .ok (.getfield 10, 3) := by decide +kernel
theorem jd_G_seekShelter_66 : decode jb_G_seekShelter 66 = .ok (.aload_n 2, 1) := by decide +kernel
theorem jd_G_seekShelter_67 : decode jb_G_seekShelter 67 = .ok (.getfield 155, 3) := by decide +kernel
theorem jd_G_seekShelter_70 : decode jb_G_seekShelter 70 = .ok (.invokevirtual 339, 3) := by decide +kernel
theorem jd_G_seekShelter_73 : decode jb_G_seekShelter 73 = .ok (.goto 4, 3) := by decide +kernel
theorem jd_G_seekShelter_76 : decode jb_G_seekShelter 76 = .ok (.iconst (-1), 1) := by decide +kernel
theorem jd_G_seekShelter_77 : decode jb_G_seekShelter 77 = .ok (.istore 4, 2) := by decide +kernel
theorem jd_G_seekShelter_79 : decode jb_G_seekShelter 79 = .ok (.iload 4, 2) := by decide +kernel
theorem jd_G_seekShelter_81 : decode jb_G_seekShelter 81 = .ok (.iconst (-1), 1) := by decide +kernel
theorem jd_G_seekShelter_82 : decode jb_G_seekShelter 82 = .ok (.if_icmp .eq 23, 3) := by decide +kernel
theorem jd_G_seekShelter_85 : decode jb_G_seekShelter 85 = .ok (.aload_n 0, 1) := by decide +kernel
theorem jd_G_seekShelter_86 : decode jb_G_seekShelter 86 = .ok (.aload_n 2, 1) := by decide +kernel
theorem jd_G_seekShelter_87 : decode jb_G_seekShelter 87 = .ok (.iload 4, 2) := by decide +kernel
theorem jd_G_seekShelter_89 : decode jb_G_seekShelter 89 = .ok (.aload_n 0, 1) := by decide +kernel
theorem jd_G_seekShelter_90 : decode jb_G_seekShelter 90 = .ok (.getfield 10, 3) := by decide +kernel
theorem jd_G_seekShelter_93 : decode jb_G_seekShelter 93 = .ok (.aload_n 2, 1) := by decide +kernel
theorem jd_G_seekShelter_94 : decode jb_G_seekShelter 94 = .ok (.getfield 155, 3) := by decide +kernel
theorem jd_G_seekShelter_97 : decode jb_G_seekShelter 97 = .ok (.iload 4, 2) := by decide +kernel
theorem jd_G_seekShelter_99 : decode jb_G_seekShelter 99 = .ok (.invokevirtual 111, 3) := by decide +kernel
theorem jd_G_seekShelter_102 : decode jb_G_seekShelter 102 = .ok (.invokevirtual 158, 3) := by decide +kernel
theorem jd_G_seekShelter_105 : decode jb_G_seekShelter 105 = .ok (.iinc 1 1, 3) := by decide +kernel
theorem jd_G_seekShelter_108 : decode jb_G_seekShelter 108 = .ok (.goto (-106), 3) := by decide +kernel
theorem jd_G_seekShelter_111 : decode jb_G_seekShelter 111 = .ok (.return_, 1) := by decide +kernel
def f_G_seekShelter_105 (F : Nat) (kb2 : Int32 → j_M → Option (Int32 × j_M)) (x1 : Int32) (I : j_M) : Option (Int32 × j_M) := j_let (x1 + 1) (fun v1 => kb2 v1 I)
def f_G_seekShelter_77 (F : Nat) (kb2 : Int32 → j_M → Option (Int32 × j_M)) (x1 : Int32) (x2 : Nat) (s0 : Int32) (I : j_M) : Option (Int32 × j_M) := (if s0 = (-1) then f_G_seekShelter_105 F kb2 x1 I else j_bd (f_Gr_minutesBetween F (I (43 + x2) 4) s0 I) (fun v2 I3 => j_bd (f_G_setOff F x2 s0 v2 I3) (fun v4 I5 => f_G_seekShelter_105 F kb2 x1 I5)))
def f_G_seekShelter_57 (F : Nat) (kb2 : Int32 → j_M → Option (Int32 × j_M)) (x1 : Int32) (x2 : Nat) (s0 : Int32) (I : j_M) : Option (Int32 × j_M) := (if s0 = 0 then f_G_seekShelter_77 F kb2 x1 x2 (-1) I else j_bd (f_Gr_nearestShelter F (I (43 + x2) 4) I) (fun v6 I7 => f_G_seekShelter_77 F kb2 x1 x2 v6 I7))
def f_G_seekShelter_56 (F : Nat) (kb2 : Int32 → j_M → Option (Int32 × j_M)) (x1 : Int32) (x2 : Nat) (I : j_M) : Option (Int32 × j_M) := f_G_seekShelter_57 F kb2 x1 x2 0 I
def f_G_seekShelter_2b (F : Nat) (kb2 : Int32 → j_M → Option (Int32 × j_M)) (x1 : Int32) (I : j_M) : Option (Int32 × j_M) := (if (I 41 0) ≤ x1 then some (0, I) else (if j_ok x1 100 = true then (if (I (43 + (j_ix x1)) 3) = 0 then (if (I (43 + (j_ix x1)) 6) = (-1) then j_bd (f_Gr_isOpen F (I (43 + (j_ix x1)) 4) I) (fun v9 I10 => (if v9 = 0 then f_G_seekShelter_56 F kb2 x1 (j_ix x1) I10 else f_G_seekShelter_57 F kb2 x1 (j_ix x1) 1 I10)) else f_G_seekShelter_56 F kb2 x1 (j_ix x1) I) else f_G_seekShelter_56 F kb2 x1 (j_ix x1) I) else none))
def f_G_seekShelter_2 (F : Nat)  (x1 : Int32) (I : j_M) : Option (Int32 × j_M) := j_it (fun (again : Int32 × j_M → Option (Int32 × j_M)) (q : Int32 × j_M) => f_G_seekShelter_2b F  (fun x1 I => again (x1, I))  q.1 q.2) F (x1, I)
def f_G_seekShelter (F : Nat)  (I : j_M) : Option (Int32 × j_M) := f_G_seekShelter_2 F 0 I
set_option maxRecDepth 100000 in
set_option maxHeartbeats 4000000 in
theorem k_G_seekShelter_105 {p : Program} {l : Launch} {e : Env} {R : Room} {s : State} {m : MethodId} {args : Array Value} {below : List Frame} {meth : Method} {c : Code} {g : j_G} {b n : Nat} {P : j_R} {F : Nat} (hF : j_Fx 0 260 P) (hn : 260 ≤ n) (X : j_X p R s m args meth c g b 4 jb_G_seekShelter 5 "PleasureGarden" none) {kb2 : Int32 → j_M → Option (Int32 × j_M)} (hkb2 : ∀ (x1 : Int32) (I : j_M) (r : Int32 × j_M), kb2 x1 I = some r → j_W p l e R s m args below meth c 5 g b n 0 0 (j_Qv g b n P below args s r) I P 2 [some (.ref (b + 0)), some (.int x1), none, none, none] []) {x1 : Int32} {I : j_M} {r : Int32 × j_M}  (h : f_G_seekShelter_105 F kb2 x1 I = some r) : j_W p l e R s m args below meth c 5 g b n 0 0 (j_Qv g b n P below args s r) I P 105 [some (.ref (b + 0)), some (.int x1), none, none, none] [] := by
  unfold f_G_seekShelter_105 at h
  obtain ⟨v1, ev1, h⟩ := j_ex h
  refine j_iinc (v := v1) (lv' := [some (.ref (b + 0)), some (.int v1), none, none, none]) X jd_G_seekShelter_105 rfl (by rw [ev1]; rfl) (by decide) rfl ?_
  refine j_goto (tgt := 2) X jd_G_seekShelter_108 rfl ?_
  exact hkb2 _ _ _ h
set_option maxRecDepth 100000 in
set_option maxHeartbeats 4000000 in
theorem k_G_seekShelter_77 {p : Program} {l : Launch} {e : Env} {R : Room} {s : State} {m : MethodId} {args : Array Value} {below : List Frame} {meth : Method} {c : Code} {g : j_G} {b n : Nat} {P : j_R} {F : Nat} (hF : j_Fx 0 260 P) (hn : 260 ≤ n) (X : j_X p R s m args meth c g b 4 jb_G_seekShelter 5 "PleasureGarden" none) {kb2 : Int32 → j_M → Option (Int32 × j_M)} (hkb2 : ∀ (x1 : Int32) (I : j_M) (r : Int32 × j_M), kb2 x1 I = some r → j_W p l e R s m args below meth c 5 g b n 0 0 (j_Qv g b n P below args s r) I P 2 [some (.ref (b + 0)), some (.int x1), none, none, none] []) {x1 : Int32} {x2 : Nat} {s0 : Int32} {I : j_M} {r : Int32 × j_M} (hx2 : x2 < 100) (h : f_G_seekShelter_77 F kb2 x1 x2 s0 I = some r) : j_W p l e R s m args below meth c 5 g b n 0 0 (j_Qv g b n P below args s r) I P 77 [some (.ref (b + 0)), some (.int x1), some (.ref (b + (43 + x2))), none, none] [.int s0] := by
  unfold f_G_seekShelter_77 at h
  refine j_istore (lv' := [some (.ref (b + 0)), some (.int x1), some (.ref (b + (43 + x2))), none, some (.int s0)]) X jd_G_seekShelter_77 (by decide) rfl ?_
  refine j_iload X jd_G_seekShelter_79 rfl ?_
  refine j_iconst (v := (-1)) X jd_G_seekShelter_81 (by decide) ?_
  refine j_icmp_eq (tgt := 105) X jd_G_seekShelter_82 rfl h (fun h => ?_) (fun h => ?_)
  · refine j_sub [true, true, false, false, false] (lv' := [some (.ref (b + 0)), some (.int x1), none, none, none]) rfl ?_
    exact k_G_seekShelter_105 hF hn X hkb2 h
  · refine j_aload_n X jd_G_seekShelter_85 rfl rfl ?_
    refine j_aload_n X jd_G_seekShelter_86 rfl rfl ?_
    refine j_iload X jd_G_seekShelter_87 rfl ?_
    refine j_aload_n X jd_G_seekShelter_89 rfl rfl ?_
    refine j_getr X jf_G_10 jk_0_0 js_0 (j_lt rfl hn) (jp_0_0 hF) jd_G_seekShelter_90 ?_
    refine j_aload_n X jd_G_seekShelter_93 rfl rfl ?_
    refine j_get X jf_G_155 jk_4_4 (jsp_43 hx2) (j_ltq hx2 rfl hn) jd_G_seekShelter_94 ?_
    refine j_iload X jd_G_seekShelter_97 rfl ?_
    refine j_callVi (As := [.int (I (43 + x2) 4), .int s0]) (st := [.int s0, .ref (b + (43 + x2)), .ref (b + 0)]) (c0 := 1) X h jc_Gr js_1 (j_lt rfl hn) ⟨jqc_Gr_minutesBetween, jqi_Gr_minutesBetween, jqv_Gr_minutesBetween, jqn_Gr⟩ jlm_G_111 jh_Gr_minutesBetween rfl (by decide) (by decide) (Nat.le_of_ble_eq_true rfl) ⟨Nat.zero_le _, Nat.zero_le _⟩ (fun v0 I0 h => k_Gr_minutesBetween (r := (v0, I0)) hF.gr (j_le hn) h) jd_G_seekShelter_99 rfl (fun v2 I3 h => ?_)
    refine j_callVv (As := [.ref (b + (43 + x2)), .int s0, .int v2]) (st := []) (c0 := 0) X h jc_G js_0 (j_lt rfl hn) ⟨jqc_G_setOff, jqi_G_setOff, jqv_G_setOff, jqn_G⟩ jlm_G_158 jh_G_setOff rfl (by decide) (by decide) (Nat.le_of_ble_eq_true rfl) ⟨Nat.zero_le _, Nat.zero_le _⟩ (fun v0 I0 h => k_G_setOff (r := (v0, I0)) hF hn hx2 h) jd_G_seekShelter_102 rfl (fun v4 I5 h => ?_)
    refine j_sub [true, true, false, false, false] (lv' := [some (.ref (b + 0)), some (.int x1), none, none, none]) rfl ?_
    exact k_G_seekShelter_105 hF hn X hkb2 h
set_option maxRecDepth 100000 in
set_option maxHeartbeats 4000000 in
theorem k_G_seekShelter_57 {p : Program} {l : Launch} {e : Env} {R : Room} {s : State} {m : MethodId} {args : Array Value} {below : List Frame} {meth : Method} {c : Code} {g : j_G} {b n : Nat} {P : j_R} {F : Nat} (hF : j_Fx 0 260 P) (hn : 260 ≤ n) (X : j_X p R s m args meth c g b 4 jb_G_seekShelter 5 "PleasureGarden" none) {kb2 : Int32 → j_M → Option (Int32 × j_M)} (hkb2 : ∀ (x1 : Int32) (I : j_M) (r : Int32 × j_M), kb2 x1 I = some r → j_W p l e R s m args below meth c 5 g b n 0 0 (j_Qv g b n P below args s r) I P 2 [some (.ref (b + 0)), some (.int x1), none, none, none] []) {x1 : Int32} {x2 : Nat} {s0 : Int32} {I : j_M} {r : Int32 × j_M} (hx2 : x2 < 100) (h : f_G_seekShelter_57 F kb2 x1 x2 s0 I = some r) : j_W p l e R s m args below meth c 5 g b n 0 0 (j_Qv g b n P below args s r) I P 57 [some (.ref (b + 0)), some (.int x1), some (.ref (b + (43 + x2))), none, none] [.int s0] := by
  unfold f_G_seekShelter_57 at h
  refine j_istore_n (lv' := [some (.ref (b + 0)), some (.int x1), some (.ref (b + (43 + x2))), some (.int s0), none]) X jd_G_seekShelter_57 rfl (by decide) rfl ?_
  refine j_iload_n X jd_G_seekShelter_58 rfl rfl ?_
  refine j_if_eq (tgt := 76) X jd_G_seekShelter_59 rfl h (fun h => ?_) (fun h => ?_)
  · refine j_iconst (v := (-1)) X jd_G_seekShelter_76 (by decide) ?_
    refine j_sub [true, true, true, false, false] (lv' := [some (.ref (b + 0)), some (.int x1), some (.ref (b + (43 + x2))), none, none]) rfl ?_
    exact k_G_seekShelter_77 hF hn X hkb2 hx2 h
  · refine j_aload_n X jd_G_seekShelter_62 rfl rfl ?_
    refine j_getr X jf_G_10 jk_0_0 js_0 (j_lt rfl hn) (jp_0_0 hF) jd_G_seekShelter_63 ?_
    refine j_aload_n X jd_G_seekShelter_66 rfl rfl ?_
    refine j_get X jf_G_155 jk_4_4 (jsp_43 hx2) (j_ltq hx2 rfl hn) jd_G_seekShelter_67 ?_
    refine j_callVi (As := [.int (I (43 + x2) 4)]) (st := []) (c0 := 1) X h jc_Gr js_1 (j_lt rfl hn) ⟨jqc_Gr_nearestShelter, jqi_Gr_nearestShelter, jqv_Gr_nearestShelter, jqn_Gr⟩ jlm_G_339 jh_Gr_nearestShelter rfl (by decide) (by decide) (Nat.le_of_ble_eq_true rfl) ⟨Nat.zero_le _, Nat.zero_le _⟩ (fun v0 I0 h => k_Gr_nearestShelter (r := (v0, I0)) hF.gr (j_le hn) h) jd_G_seekShelter_70 rfl (fun v6 I7 h => ?_)
    refine j_goto (tgt := 77) X jd_G_seekShelter_73 rfl ?_
    refine j_sub [true, true, true, false, false] (lv' := [some (.ref (b + 0)), some (.int x1), some (.ref (b + (43 + x2))), none, none]) rfl ?_
    exact k_G_seekShelter_77 hF hn X hkb2 hx2 h
set_option maxRecDepth 100000 in
set_option maxHeartbeats 4000000 in
theorem k_G_seekShelter_56 {p : Program} {l : Launch} {e : Env} {R : Room} {s : State} {m : MethodId} {args : Array Value} {below : List Frame} {meth : Method} {c : Code} {g : j_G} {b n : Nat} {P : j_R} {F : Nat} (hF : j_Fx 0 260 P) (hn : 260 ≤ n) (X : j_X p R s m args meth c g b 4 jb_G_seekShelter 5 "PleasureGarden" none) {kb2 : Int32 → j_M → Option (Int32 × j_M)} (hkb2 : ∀ (x1 : Int32) (I : j_M) (r : Int32 × j_M), kb2 x1 I = some r → j_W p l e R s m args below meth c 5 g b n 0 0 (j_Qv g b n P below args s r) I P 2 [some (.ref (b + 0)), some (.int x1), none, none, none] []) {x1 : Int32} {x2 : Nat} {I : j_M} {r : Int32 × j_M} (hx2 : x2 < 100) (h : f_G_seekShelter_56 F kb2 x1 x2 I = some r) : j_W p l e R s m args below meth c 5 g b n 0 0 (j_Qv g b n P below args s r) I P 56 [some (.ref (b + 0)), some (.int x1), some (.ref (b + (43 + x2))), none, none] [] := by
  unfold f_G_seekShelter_56 at h
  refine j_iconst (v := 0) X jd_G_seekShelter_56 (by decide) ?_
  exact k_G_seekShelter_57 hF hn X hkb2 hx2 h
set_option maxRecDepth 100000 in
set_option maxHeartbeats 4000000 in
theorem k_G_seekShelter_2b {p : Program} {l : Launch} {e : Env} {R : Room} {s : State} {m : MethodId} {args : Array Value} {below : List Frame} {meth : Method} {c : Code} {g : j_G} {b n : Nat} {P : j_R} {F : Nat} (hF : j_Fx 0 260 P) (hn : 260 ≤ n) (X : j_X p R s m args meth c g b 4 jb_G_seekShelter 5 "PleasureGarden" none) {kb2 : Int32 → j_M → Option (Int32 × j_M)} (hkb2 : ∀ (x1 : Int32) (I : j_M) (r : Int32 × j_M), kb2 x1 I = some r → j_W p l e R s m args below meth c 5 g b n 0 0 (j_Qv g b n P below args s r) I P 2 [some (.ref (b + 0)), some (.int x1), none, none, none] []) {x1 : Int32} {I : j_M} {r : Int32 × j_M}  (h : f_G_seekShelter_2b F kb2 x1 I = some r) : j_W p l e R s m args below meth c 5 g b n 0 0 (j_Qv g b n P below args s r) I P 2 [some (.ref (b + 0)), some (.int x1), none, none, none] [] := by
  unfold f_G_seekShelter_2b at h
  refine j_iload_n X jd_G_seekShelter_2 rfl rfl ?_
  refine j_aload_n X jd_G_seekShelter_3 rfl rfl ?_
  refine j_getr X jf_G_30 jk_0_3 js_0 (j_lt rfl hn) (jp_0_3 hF) jd_G_seekShelter_4 ?_
  refine j_get X jf_G_124 jk_3_0 js_41 (j_lt rfl hn) jd_G_seekShelter_7 ?_
  refine j_icmp_ge (tgt := 111) X jd_G_seekShelter_10 rfl h (fun h => ?_) (fun h => ?_)
  · exact j_vret X rfl jd_G_seekShelter_111 h
  · refine j_aload_n X jd_G_seekShelter_13 rfl rfl ?_
    refine j_getr X jf_G_30 jk_0_3 js_0 (j_lt rfl hn) (jp_0_3 hF) jd_G_seekShelter_14 ?_
    refine j_getr X jf_G_148 jk_3_1 js_41 (j_lt rfl hn) (jp_41_1 hF) jd_G_seekShelter_17 ?_
    refine j_iload_n X jd_G_seekShelter_20 rfl rfl ?_
    refine j_aald X rfl rfl js_42 (j_lt rfl hn) jd_G_seekShelter_21 (fun q => ja_42 hF _ (j_ok_lt q)) h (fun hb8 h => ?_)
    refine j_astore_n (lv' := [some (.ref (b + 0)), some (.int x1), some (.ref (b + (43 + (j_ix x1)))), none, none]) X jd_G_seekShelter_22 rfl (by decide) rfl ?_
    refine j_aload_n X jd_G_seekShelter_23 rfl rfl ?_
    refine j_get X jf_G_152 jk_4_3 (jsp_43 (j_ok_lt hb8)) (j_ltq (j_ok_lt hb8) rfl hn) jd_G_seekShelter_24 ?_
    refine j_if_ne (tgt := 56) X jd_G_seekShelter_27 rfl h (fun h => ?_) (fun h => ?_)
    · refine j_aload_n X jd_G_seekShelter_30 rfl rfl ?_
      refine j_get X jf_G_227 jk_4_6 (jsp_43 (j_ok_lt hb8)) (j_ltq (j_ok_lt hb8) rfl hn) jd_G_seekShelter_31 ?_
      refine j_iconst (v := (-1)) X jd_G_seekShelter_34 (by decide) ?_
      refine j_icmp_ne (tgt := 56) X jd_G_seekShelter_35 rfl h (fun h => ?_) (fun h => ?_)
      · refine j_aload_n X jd_G_seekShelter_38 rfl rfl ?_
        refine j_getr X jf_G_10 jk_0_0 js_0 (j_lt rfl hn) (jp_0_0 hF) jd_G_seekShelter_39 ?_
        refine j_aload_n X jd_G_seekShelter_42 rfl rfl ?_
        refine j_get X jf_G_155 jk_4_4 (jsp_43 (j_ok_lt hb8)) (j_ltq (j_ok_lt hb8) rfl hn) jd_G_seekShelter_43 ?_
        refine j_callVi (As := [.int (I (43 + (j_ix x1)) 4)]) (st := []) (c0 := 1) X h jc_Gr js_1 (j_lt rfl hn) ⟨jqc_Gr_isOpen, jqi_Gr_isOpen, jqv_Gr_isOpen, jqn_Gr⟩ jlm_G_336 jh_Gr_isOpen rfl (by decide) (by decide) (Nat.le_of_ble_eq_true rfl) ⟨Nat.zero_le _, Nat.zero_le _⟩ (fun v0 I0 h => k_Gr_isOpen (r := (v0, I0)) hF.gr (j_le hn) h) jd_G_seekShelter_46 rfl (fun v9 I10 h => ?_)
        refine j_if_eq (tgt := 56) X jd_G_seekShelter_49 rfl h (fun h => ?_) (fun h => ?_)
        · exact k_G_seekShelter_56 hF hn X hkb2 (j_ok_lt hb8) h
        · refine j_iconst (v := 1) X jd_G_seekShelter_52 (by decide) ?_
          refine j_goto (tgt := 57) X jd_G_seekShelter_53 rfl ?_
          exact k_G_seekShelter_57 hF hn X hkb2 (j_ok_lt hb8) h
      · exact k_G_seekShelter_56 hF hn X hkb2 (j_ok_lt hb8) h
    · exact k_G_seekShelter_56 hF hn X hkb2 (j_ok_lt hb8) h
set_option maxRecDepth 100000 in
set_option maxHeartbeats 4000000 in
theorem k_G_seekShelter_2 {p : Program} {l : Launch} {e : Env} {R : Room} {s : State} {m : MethodId} {args : Array Value} {below : List Frame} {meth : Method} {c : Code} {g : j_G} {b n : Nat} {P : j_R} {F : Nat} (hF : j_Fx 0 260 P) (hn : 260 ≤ n) (X : j_X p R s m args meth c g b 4 jb_G_seekShelter 5 "PleasureGarden" none)  {x1 : Int32} {I : j_M} {r : Int32 × j_M} (h : f_G_seekShelter_2 F x1 I = some r) : j_W p l e R s m args below meth c 5 g b n 0 0 (j_Qv g b n P below args s r) I P 2 [some (.ref (b + 0)), some (.int x1), none, none, none] [] := by
  refine j_loop (G := fun (q : Int32 × j_M) (r : Int32 × j_M) => j_W p l e R s m args below meth c 5 g b n 0 0 (j_Qv g b n P below args s r) q.2 P 2 [some (.ref (b + 0)), some (.int (q.1)), none, none, none] []) ?_ F (x1, I) r h
  intro again hrec0 q r h
  exact k_G_seekShelter_2b hF hn X (fun x1 I r h => hrec0 (x1, I) r h)  h
set_option maxRecDepth 100000 in
set_option maxHeartbeats 4000000 in
theorem k_G_seekShelter {l : Launch} {g : j_G} {b n : Nat} {P : j_R} {F : Nat} (hF : j_Fx 0 260 P) (hn : 260 ≤ n)  {I : j_M} {r : Int32 × j_M}  (h : f_G_seekShelter F I = some r) : j_Met l g b n P 4 jy_G_seekShelter jb_G_seekShelter 5 none [.ref (b + 0)] I r.2 none := by
  unfold f_G_seekShelter at h
  refine j_enter (plainFor_of_name (by decide)) (Nat.le_of_ble_eq_true rfl) [some (.ref (b + 0)), none, none, none, none] rfl ?_
  intro p e R s m args below meth c X0 hnm hRc hRs
  have X : j_X p R s m args meth c g b 4 jb_G_seekShelter 5 "PleasureGarden" none := X0
  clear X0
  refine j_iconst (v := 0) X jd_G_seekShelter_0 (by decide) ?_
  refine j_istore_n (lv' := [some (.ref (b + 0)), some (.int 0), none, none, none]) X jd_G_seekShelter_1 rfl (by decide) rfl ?_
  exact k_G_seekShelter_2 hF hn X h
-- PleasureGarden.price(II)I
theorem jd_G_price_0 : decode jb_G_price 0 = .ok (.iload_n 1, 1) := by decide +kernel
theorem jd_G_price_1 : decode jb_G_price 1 = .ok (.iconst 0, 1) := by decide +kernel
theorem jd_G_price_2 : decode jb_G_price 2 = .ok (.iconst 2, 1) := by decide +kernel
theorem jd_G_price_3 : decode jb_G_price 3 = .ok (.invokestatic 92, 3) := by decide +kernel
theorem jd_G_price_6 : decode jb_G_price 6 = .ok (.ifCond .eq 14, 3) := by decide +kernel
theorem jd_G_price_9 : decode jb_G_price 9 = .ok (.iload_n 2, 1) := by decide +kernel
theorem jd_G_price_10 : decode jb_G_price 10 = .ok (.iconst 0, 1) := by decide +kernel
theorem jd_G_price_11 : decode jb_G_price 11 = .ok (.sipush 199, 3) := by decide +kernel
theorem jd_G_price_14 : decode jb_G_price 14 = .ok (.invokestatic 92, 3) := by decide +kernel
theorem jd_G_price_17 : decode jb_G_price 17 = .ok (.ifCond .ne 5, 3) := by decide +kernel
theorem jd_G_price_20 : decode jb_G_price 20 = .ok (.iconst (-1), 1) := by decide +kernel
theorem jd_G_price_21 : decode jb_G_price 21 = .ok (.ireturn, 1) := by decide +kernel
theorem jd_G_price_22 : decode jb_G_price 22 = .ok (.aload_n 0, 1) := by decide +kernel
theorem jd_G_price_23 : decode jb_G_price 23 = .ok (.getfield 65, 3) := by decide +kernel
theorem jd_G_price_26 : decode jb_G_price 26 = .ok (.getfield 266, 3) := by decide +kernel
theorem jd_G_price_29 : decode jb_G_price 29 = .ok (.bipush 30, 2) := by decide +kernel
theorem jd_G_price_31 : decode jb_G_price 31 = .ok (.if_icmp .lt 8, 3) := by decide +kernel
theorem jd_G_price_34 : decode jb_G_price 34 = .ok (.bipush (-3), 2) := by decide +kernel
theorem jd_G_price_36 : decode jb_G_price 36 = .ok (.goto 16, 3) := by decide +kernel
theorem jd_G_price_39 : decode jb_G_price 39 = .ok (.aload_n 0, 1) := by decide +kernel
theorem jd_G_price_40 : decode jb_G_price 40 = .ok (.getfield 65, 3) := by decide +kernel
theorem jd_G_price_43 : decode jb_G_price 43 = .ok (.iload_n 1, 1) := by decide +kernel
theorem jd_G_price_44 : decode jb_G_price 44 = .ok (.iload_n 2, 1) := by decide +kernel
theorem jd_G_price_45 : decode jb_G_price 45 = .ok (.aload_n 0, 1) := by decide +kernel
theorem jd_G_price_46 : decode jb_G_price 46 = .ok (.getfield 76, 3) := by decide +kernel
theorem jd_G_price_49 : decode jb_G_price 49 = .ok (.invokevirtual 267, 3) := by decide +kernel
theorem jd_G_price_52 : decode jb_G_price 52 = .ok (.ireturn, 1) := by decide +kernel
def f_G_price (F : Nat) (x1 : Int32) (x2 : Int32) (I : j_M) : Option (Int32 × j_M) := j_bd (f_G_within F x1 0 2 I) (fun v1 I2 => (if v1 = 0 then some ((-1), I2) else j_bd (f_G_within F x2 0 199 I2) (fun v3 I4 => (if v3 = 0 then some ((-1), I4) else (if (I4 202 0) < 30 then j_bd (f_Pr_make F x1 x2 (I4 0 10) I4) (fun v5 I6 => some (v5, I6)) else some ((-3), I4))))))
set_option maxRecDepth 100000 in
set_option maxHeartbeats 4000000 in
theorem k_G_price {l : Launch} {g : j_G} {b n : Nat} {P : j_R} {F : Nat} (hF : j_Fx 0 260 P) (hn : 260 ≤ n) {x1 : Int32} {x2 : Int32} {I : j_M} {r : Int32 × j_M}  (h : f_G_price F x1 x2 I = some r) : j_Met l g b n P 68 jy_G_price jb_G_price 3 (some .int) [.ref (b + 0), .int x1, .int x2] I r.2 (some (.int r.1)) := by
  unfold f_G_price at h
  refine j_enter (plainFor_of_name (by decide)) (Nat.le_of_ble_eq_true rfl) [some (.ref (b + 0)), some (.int x1), some (.int x2)] rfl ?_
  intro p e R s m args below meth c X0 hnm hRc hRs
  have X : j_X p R s m args meth c g b 68 jb_G_price 3 "PleasureGarden" (some .int) := X0
  clear X0
  refine j_iload_n X jd_G_price_0 rfl rfl ?_
  refine j_iconst (v := 0) X jd_G_price_1 (by decide) ?_
  refine j_iconst (v := 2) X jd_G_price_2 (by decide) ?_
  refine j_callSi (As := [.int x1, .int 0, .int 2]) (st := []) X h ⟨jqc_G_within, jqs_G_within, jqn_G⟩ jlm_G_92 jh_G_within.2 rfl (by decide) (by decide) (Nat.le_of_ble_eq_true rfl) ⟨Nat.zero_le _, Nat.zero_le _⟩ (fun v0 I0 h => k_G_within (r := (v0, I0)) hF hn h) jd_G_price_3 rfl (fun v1 I2 h => ?_)
  refine j_if_eq (tgt := 20) X jd_G_price_6 rfl h (fun h => ?_) (fun h => ?_)
  · refine j_iconst (v := (-1)) X jd_G_price_20 (by decide) ?_
    exact j_iret X rfl jd_G_price_21 h
  · refine j_iload_n X jd_G_price_9 rfl rfl ?_
    refine j_iconst (v := 0) X jd_G_price_10 (by decide) ?_
    refine j_sipush (v := 199) X jd_G_price_11 (by decide) ?_
    refine j_callSi (As := [.int x2, .int 0, .int 199]) (st := []) X h ⟨jqc_G_within, jqs_G_within, jqn_G⟩ jlm_G_92 jh_G_within.2 rfl (by decide) (by decide) (Nat.le_of_ble_eq_true rfl) ⟨Nat.zero_le _, Nat.zero_le _⟩ (fun v0 I0 h => k_G_within (r := (v0, I0)) hF hn h) jd_G_price_14 rfl (fun v3 I4 h => ?_)
    refine j_if_ne (tgt := 22) X jd_G_price_17 rfl h (fun h => ?_) (fun h => ?_)
    · refine j_iconst (v := (-1)) X jd_G_price_20 (by decide) ?_
      exact j_iret X rfl jd_G_price_21 h
    · refine j_aload_n X jd_G_price_22 rfl rfl ?_
      refine j_getr X jf_G_65 jk_0_8 js_0 (j_lt rfl hn) (jp_0_8 hF) jd_G_price_23 ?_
      refine j_get X jf_G_266 jk_9_0 js_202 (j_lt rfl hn) jd_G_price_26 ?_
      refine j_bipush (v := 30) X jd_G_price_29 (by decide) ?_
      refine j_icmp_lt (tgt := 39) X jd_G_price_31 rfl h (fun h => ?_) (fun h => ?_)
      · refine j_aload_n X jd_G_price_39 rfl rfl ?_
        refine j_getr X jf_G_65 jk_0_8 js_0 (j_lt rfl hn) (jp_0_8 hF) jd_G_price_40 ?_
        refine j_iload_n X jd_G_price_43 rfl rfl ?_
        refine j_iload_n X jd_G_price_44 rfl rfl ?_
        refine j_aload_n X jd_G_price_45 rfl rfl ?_
        refine j_get X jf_G_76 jk_0_10 js_0 (j_lt rfl hn) jd_G_price_46 ?_
        refine j_callVi (As := [.int x1, .int x2, .int (I4 0 10)]) (st := []) (c0 := 202) X h jc_Pr js_202 (j_lt rfl hn) ⟨jqc_Pr_make, jqi_Pr_make, jqv_Pr_make, jqn_Pr⟩ jlm_G_267 jh_Pr_make rfl (by decide) (by decide) (Nat.le_of_ble_eq_true rfl) ⟨Nat.zero_le _, Nat.zero_le _⟩ (fun v0 I0 h => k_Pr_make (r := (v0, I0)) hF hn h) jd_G_price_49 rfl (fun v5 I6 h => ?_)
        exact j_iret X rfl jd_G_price_52 h
      · refine j_bipush (v := (-3)) X jd_G_price_34 (by decide) ?_
        refine j_goto (tgt := 52) X jd_G_price_36 rfl ?_
        exact j_iret X rfl jd_G_price_52 h
-- PleasureGarden.worth(ILPleasureGarden$Party;I)I
theorem jd_G_worth_0 : decode jb_G_worth 0 = .ok (.aload_n 0, 1) := by decide +kernel
theorem jd_G_worth_1 : decode jb_G_worth 1 = .ok (.getfield 65, 3) := by decide +kernel
theorem jd_G_worth_4 : decode jb_G_worth 4 = .ok (.iload_n 1, 1) := by decide +kernel
theorem jd_G_worth_5 : decode jb_G_worth 5 = .ok (.invokevirtual 270, 3) := by decide +kernel
theorem jd_G_worth_8 : decode jb_G_worth 8 = .ok (.ifCond .ne 5, 3) := by decide +kernel
theorem jd_G_worth_11 : decode jb_G_worth 11 = .ok (.iconst 0, 1) := by decide +kernel
theorem jd_G_worth_12 : decode jb_G_worth 12 = .ok (.ireturn, 1) := by decide +kernel
theorem jd_G_worth_13 : decode jb_G_worth 13 = .ok (.aload_n 0, 1) := by decide +kernel
theorem jd_G_worth_14 : decode jb_G_worth 14 = .ok (.getfield 65, 3) := by decide +kernel
theorem jd_G_worth_17 : decode jb_G_worth 17 = .ok (.getfield 364, 3) := by decide +kernel
theorem jd_G_worth_20 : decode jb_G_worth 20 = .ok (.getfield 368, 3) := by decide +kernel
theorem jd_G_worth_23 : decode jb_G_worth 23 = .ok (.astore 4, 2) := by decide +kernel
theorem jd_G_worth_25 : decode jb_G_worth 25 = .ok (.aload 4, 2) := by decide +kernel
theorem jd_G_worth_27 : decode jb_G_worth 27 = .ok (.iconst 0, 1) := by decide +kernel
theorem jd_G_worth_28 : decode jb_G_worth 28 = .ok (.aload_n 2, 1) := by decide +kernel
theorem jd_G_worth_29 : decode jb_G_worth 29 = .ok (.getfield 230, 3) := by decide +kernel
theorem jd_G_worth_32 : decode jb_G_worth 32 = .ok (.iastore, 1) := by decide +kernel
theorem jd_G_worth_33 : decode jb_G_worth 33 = .ok (.aload 4, 2) := by decide +kernel
theorem jd_G_worth_35 : decode jb_G_worth 35 = .ok (.iconst 1, 1) := by decide +kernel
theorem jd_G_worth_36 : decode jb_G_worth 36 = .ok (.aload_n 0, 1) := by decide +kernel
theorem jd_G_worth_37 : decode jb_G_worth 37 = .ok (.getfield 80, 3) := by decide +kernel
theorem jd_G_worth_40 : decode jb_G_worth 40 = .ok (.iastore, 1) := by decide +kernel
theorem jd_G_worth_41 : decode jb_G_worth 41 = .ok (.aload 4, 2) := by decide +kernel
theorem jd_G_worth_43 : decode jb_G_worth 43 = .ok (.iconst 2, 1) := by decide +kernel
theorem jd_G_worth_44 : decode jb_G_worth 44 = .ok (.aload_n 0, 1) := by decide +kernel
theorem jd_G_worth_45 : decode jb_G_worth 45 = .ok (.getfield 19, 3) := by decide +kernel
theorem jd_G_worth_48 : decode jb_G_worth 48 = .ok (.aload_n 0, 1) := by decide +kernel
theorem jd_G_worth_49 : decode jb_G_worth 49 = .ok (.getfield 80, 3) := by decide +kernel
theorem jd_G_worth_52 : decode jb_G_worth 52 = .ok (.invokevirtual 173, 3) := by decide +kernel
theorem jd_G_worth_55 : decode jb_G_worth 55 = .ok (.ifCond .eq 7, 3) := by decide +kernel
theorem jd_G_worth_58 : decode jb_G_worth 58 = .ok (.iconst 1, 1) := by decide +kernel
theorem jd_G_worth_59 : decode jb_G_worth 59 = .ok (.goto 4, 3) := by decide +kernel
theorem jd_G_worth_62 : decode jb_G_worth 62 = .ok (.iconst 0, 1) := by decide +kernel
theorem jd_G_worth_63 : decode jb_G_worth 63 = .ok (.iastore, 1) := by decide +kernel
theorem jd_G_worth_64 : decode jb_G_worth 64 = .ok (.aload 4, 2) := by decide +kernel
theorem jd_G_worth_66 : decode jb_G_worth 66 = .ok (.iconst 3, 1) := by decide +kernel
theorem jd_G_worth_67 : decode jb_G_worth 67 = .ok (.aload_n 0, 1) := by decide +kernel
theorem jd_G_worth_68 : decode jb_G_worth 68 = .ok (.getfield 76, 3) := by decide +kernel
theorem jd_G_worth_71 : decode jb_G_worth 71 = .ok (.iastore, 1) := by decide +kernel
theorem jd_G_worth_72 : decode jb_G_worth 72 = .ok (.aload 4, 2) := by decide +kernel
theorem jd_G_worth_74 : decode jb_G_worth 74 = .ok (.iconst 4, 1) := by decide +kernel
theorem jd_G_worth_75 : decode jb_G_worth 75 = .ok (.aload_n 0, 1) := by decide +kernel
theorem jd_G_worth_76 : decode jb_G_worth 76 = .ok (.getfield 19, 3) := by decide +kernel
theorem jd_G_worth_79 : decode jb_G_worth 79 = .ok (.aload_n 2, 1) := by decide +kernel
theorem jd_G_worth_80 : decode jb_G_worth 80 = .ok (.getfield 373, 3) := by decide +kernel
theorem jd_G_worth_83 : decode jb_G_worth 83 = .ok (.aload_n 0, 1) := by decide +kernel
theorem jd_G_worth_84 : decode jb_G_worth 84 = .ok (.getfield 80, 3) := by decide +kernel
theorem jd_G_worth_87 : decode jb_G_worth 87 = .ok (.invokevirtual 276, 3) := by decide +kernel
theorem jd_G_worth_90 : decode jb_G_worth 90 = .ok (.iastore, 1) := by decide +kernel
theorem jd_G_worth_91 : decode jb_G_worth 91 = .ok (.aload 4, 2) := by decide +kernel
theorem jd_G_worth_93 : decode jb_G_worth 93 = .ok (.iconst 5, 1) := by decide +kernel
theorem jd_G_worth_94 : decode jb_G_worth 94 = .ok (.iload_n 3, 1) := by decide +kernel
theorem jd_G_worth_95 : decode jb_G_worth 95 = .ok (.iastore, 1) := by decide +kernel
theorem jd_G_worth_96 : decode jb_G_worth 96 = .ok (.aload 4, 2) := by decide +kernel
theorem jd_G_worth_98 : decode jb_G_worth 98 = .ok (.bipush 6, 2) := by decide +kernel
theorem jd_G_worth_100 : decode jb_G_worth 100 = .ok (.aload_n 0, 1) := by decide +kernel
theorem jd_G_worth_101 : decode jb_G_worth 101 = .ok (.getfield 30, 3) := by decide +kernel
theorem jd_G_worth_104 : decode jb_G_worth 104 = .ok (.invokevirtual 311, 3) := by decide +kernel
theorem jd_G_worth_107 : decode jb_G_worth 107 = .ok (.iastore, 1) := by decide +kernel
theorem jd_G_worth_108 : decode jb_G_worth 108 = .ok (.aload 4, 2) := by decide +kernel
theorem jd_G_worth_110 : decode jb_G_worth 110 = .ok (.bipush 7, 2) := by decide +kernel
theorem jd_G_worth_112 : decode jb_G_worth 112 = .ok (.aload_n 0, 1) := by decide +kernel
theorem jd_G_worth_113 : decode jb_G_worth 113 = .ok (.getfield 80, 3) := by decide +kernel
theorem jd_G_worth_116 : decode jb_G_worth 116 = .ok (.aload_n 2, 1) := by decide +kernel
theorem jd_G_worth_117 : decode jb_G_worth 117 = .ok (.getfield 373, 3) := by decide +kernel
theorem jd_G_worth_120 : decode jb_G_worth 120 = .ok (.isub, 1) := by decide +kernel
theorem jd_G_worth_121 : decode jb_G_worth 121 = .ok (.iastore, 1) := by decide +kernel
theorem jd_G_worth_122 : decode jb_G_worth 122 = .ok (.aload_n 0, 1) := by decide +kernel
theorem jd_G_worth_123 : decode jb_G_worth 123 = .ok (.getfield 65, 3) := by decide +kernel
theorem jd_G_worth_126 : decode jb_G_worth 126 = .ok (.iload_n 1, 1) := by decide +kernel
theorem jd_G_worth_127 : decode jb_G_worth 127 = .ok (.invokevirtual 376, 3) := by decide +kernel
theorem jd_G_worth_130 : decode jb_G_worth 130 = .ok (.ireturn, 1) := by decide +kernel
def f_G_worth_63 (F : Nat)  (x1 : Int32) (x2 : Nat) (x3 : Int32) (s1 : Int32) (s2 : Int32) (I : j_M) : Option (Int32 × j_M) := (if j_ok s1 8 = true then j_let (j_wr I 209 (j_ix s1) s2) (fun I1 => (if j_ok 3 8 = true then j_let (j_wr I1 209 (j_ix 3) (I1 0 10)) (fun I2 => j_bd (f_Sk_wetMinutes F (I2 (43 + x2) 10) (I2 0 11) I2) (fun v3 I4 => (if j_ok 4 8 = true then j_let (j_wr I4 209 (j_ix 4) v3) (fun I5 => (if j_ok 5 8 = true then j_let (j_wr I5 209 (j_ix 5) x3) (fun I6 => j_bd (f_Gu_headsIn F I6) (fun v7 I8 => (if j_ok 6 8 = true then j_let (j_wr I8 209 (j_ix 6) v7) (fun I9 => (if j_ok 7 8 = true then j_let (j_wr I9 209 (j_ix 7) ((I9 0 11) - (I9 (43 + x2) 10))) (fun I10 => j_bd (f_Pr_read F x1 I10) (fun v11 I12 => some (v11, I12))) else none)) else none))) else none)) else none))) else none)) else none)
def f_G_worth (F : Nat) (x1 : Int32) (x2 : Nat) (x3 : Int32) (I : j_M) : Option (Int32 × j_M) := j_bd (f_Pr_has F x1 I) (fun v13 I14 => (if v13 = 0 then some (0, I14) else (if j_ok 0 8 = true then j_let (j_wr I14 209 (j_ix 0) (I14 (43 + x2) 1)) (fun I15 => (if j_ok 1 8 = true then j_let (j_wr I15 209 (j_ix 1) (I15 0 11)) (fun I16 => j_bd (f_Sk_rains F (I16 0 11) I16) (fun v17 I18 => (if v17 = 0 then f_G_worth_63 F x1 x2 x3 2 0 I18 else f_G_worth_63 F x1 x2 x3 2 1 I18))) else none)) else none)))
set_option maxRecDepth 100000 in
set_option maxHeartbeats 4000000 in
theorem k_G_worth_63 {p : Program} {l : Launch} {e : Env} {R : Room} {s : State} {m : MethodId} {args : Array Value} {below : List Frame} {meth : Method} {c : Code} {g : j_G} {b n : Nat} {P : j_R} {F : Nat} (hF : j_Fx 0 260 P) (hn : 260 ≤ n) (X : j_X p R s m args meth c g b 68 jb_G_worth 5 "PleasureGarden" (some .int))  {x1 : Int32} {x2 : Nat} {x3 : Int32} {s1 : Int32} {s2 : Int32} {I : j_M} {r : Int32 × j_M} (hx2 : x2 < 100) (h : f_G_worth_63 F x1 x2 x3 s1 s2 I = some r) : j_W p l e R s m args below meth c 5 g b n 0 0 (j_Qi g b n P below args s r) I P 63 [some (.ref (b + 0)), some (.int x1), some (.ref (b + (43 + x2))), some (.int x3), some (.ref (b + 209))] [.int s2, .int s1, .ref (b + 209)] := by
  unfold f_G_worth_63 at h
  refine j_iast X js_209 (j_lt rfl hn) jd_G_worth_63 h (fun h => ?_)
  refine j_mem h (fun I1 h => ?_)
  refine j_aload X jd_G_worth_64 rfl ?_
  refine j_iconst (v := 3) X jd_G_worth_66 (by decide) ?_
  refine j_aload_n X jd_G_worth_67 rfl rfl ?_
  refine j_get X jf_G_76 jk_0_10 js_0 (j_lt rfl hn) jd_G_worth_68 ?_
  refine j_iast X js_209 (j_lt rfl hn) jd_G_worth_71 h (fun h => ?_)
  refine j_mem h (fun I2 h => ?_)
  refine j_aload X jd_G_worth_72 rfl ?_
  refine j_iconst (v := 4) X jd_G_worth_74 (by decide) ?_
  refine j_aload_n X jd_G_worth_75 rfl rfl ?_
  refine j_getr X jf_G_19 jk_0_1 js_0 (j_lt rfl hn) (jp_0_1 hF) jd_G_worth_76 ?_
  refine j_aload_n X jd_G_worth_79 rfl rfl ?_
  refine j_get X jf_G_373 jk_4_10 (jsp_43 hx2) (j_ltq hx2 rfl hn) jd_G_worth_80 ?_
  refine j_aload_n X jd_G_worth_83 rfl rfl ?_
  refine j_get X jf_G_80 jk_0_11 js_0 (j_lt rfl hn) jd_G_worth_84 ?_
  refine j_callVi (As := [.int (I2 (43 + x2) 10), .int (I2 0 11)]) (st := [.int 4, .ref (b + 209)]) (c0 := 38) X h jc_Sk js_38 (j_lt rfl hn) ⟨jqc_Sk_wetMinutes, jqi_Sk_wetMinutes, jqv_Sk_wetMinutes, jqn_Sk⟩ jlm_G_276 jh_Sk_wetMinutes rfl (by decide) (by decide) (Nat.le_of_ble_eq_true rfl) ⟨Nat.zero_le _, Nat.zero_le _⟩ (fun v0 I0 h => k_Sk_wetMinutes (r := (v0, I0)) hF hn h) jd_G_worth_87 rfl (fun v3 I4 h => ?_)
  refine j_iast X js_209 (j_lt rfl hn) jd_G_worth_90 h (fun h => ?_)
  refine j_mem h (fun I5 h => ?_)
  refine j_aload X jd_G_worth_91 rfl ?_
  refine j_iconst (v := 5) X jd_G_worth_93 (by decide) ?_
  refine j_iload_n X jd_G_worth_94 rfl rfl ?_
  refine j_iast X js_209 (j_lt rfl hn) jd_G_worth_95 h (fun h => ?_)
  refine j_mem h (fun I6 h => ?_)
  refine j_aload X jd_G_worth_96 rfl ?_
  refine j_bipush (v := 6) X jd_G_worth_98 (by decide) ?_
  refine j_aload_n X jd_G_worth_100 rfl rfl ?_
  refine j_getr X jf_G_30 jk_0_3 js_0 (j_lt rfl hn) (jp_0_3 hF) jd_G_worth_101 ?_
  refine j_callVi (As := []) (st := [.int 6, .ref (b + 209)]) (c0 := 41) X h jc_Gu js_41 (j_lt rfl hn) ⟨jqc_Gu_headsIn, jqi_Gu_headsIn, jqv_Gu_headsIn, jqn_Gu⟩ jlm_G_311 jh_Gu_headsIn rfl (by decide) (by decide) (Nat.le_of_ble_eq_true rfl) ⟨Nat.zero_le _, Nat.zero_le _⟩ (fun v0 I0 h => k_Gu_headsIn (r := (v0, I0)) hF hn h) jd_G_worth_104 rfl (fun v7 I8 h => ?_)
  refine j_iast X js_209 (j_lt rfl hn) jd_G_worth_107 h (fun h => ?_)
  refine j_mem h (fun I9 h => ?_)
  refine j_aload X jd_G_worth_108 rfl ?_
  refine j_bipush (v := 7) X jd_G_worth_110 (by decide) ?_
  refine j_aload_n X jd_G_worth_112 rfl rfl ?_
  refine j_get X jf_G_80 jk_0_11 js_0 (j_lt rfl hn) jd_G_worth_113 ?_
  refine j_aload_n X jd_G_worth_116 rfl rfl ?_
  refine j_get X jf_G_373 jk_4_10 (jsp_43 hx2) (j_ltq hx2 rfl hn) jd_G_worth_117 ?_
  refine j_isub X jd_G_worth_120 ?_
  refine j_iast X js_209 (j_lt rfl hn) jd_G_worth_121 h (fun h => ?_)
  refine j_mem h (fun I10 h => ?_)
  refine j_aload_n X jd_G_worth_122 rfl rfl ?_
  refine j_getr X jf_G_65 jk_0_8 js_0 (j_lt rfl hn) (jp_0_8 hF) jd_G_worth_123 ?_
  refine j_iload_n X jd_G_worth_126 rfl rfl ?_
  refine j_callVi (As := [.int x1]) (st := []) (c0 := 202) X h jc_Pr js_202 (j_lt rfl hn) ⟨jqc_Pr_read, jqi_Pr_read, jqv_Pr_read, jqn_Pr⟩ jlm_G_376 jh_Pr_read rfl (by decide) (by decide) (Nat.le_of_ble_eq_true rfl) ⟨Nat.zero_le _, Nat.zero_le _⟩ (fun v0 I0 h => k_Pr_read (r := (v0, I0)) hF hn h) jd_G_worth_127 rfl (fun v11 I12 h => ?_)
  exact j_iret X rfl jd_G_worth_130 h
set_option maxRecDepth 100000 in
set_option maxHeartbeats 4000000 in
theorem k_G_worth {l : Launch} {g : j_G} {b n : Nat} {P : j_R} {F : Nat} (hF : j_Fx 0 260 P) (hn : 260 ≤ n) {x1 : Int32} {x2 : Nat} {x3 : Int32} {I : j_M} {r : Int32 × j_M} (hx2 : x2 < 100) (h : f_G_worth F x1 x2 x3 I = some r) : j_Met l g b n P 68 jy_G_worth jb_G_worth 5 (some .int) [.ref (b + 0), .int x1, .ref (b + (43 + x2)), .int x3] I r.2 (some (.int r.1)) := by
  unfold f_G_worth at h
  refine j_enter (plainFor_of_name (by decide)) (Nat.le_of_ble_eq_true rfl) [some (.ref (b + 0)), some (.int x1), some (.ref (b + (43 + x2))), some (.int x3), none] rfl ?_
  intro p e R s m args below meth c X0 hnm hRc hRs
  have X : j_X p R s m args meth c g b 68 jb_G_worth 5 "PleasureGarden" (some .int) := X0
  clear X0
  refine j_aload_n X jd_G_worth_0 rfl rfl ?_
  refine j_getr X jf_G_65 jk_0_8 js_0 (j_lt rfl hn) (jp_0_8 hF) jd_G_worth_1 ?_
  refine j_iload_n X jd_G_worth_4 rfl rfl ?_
  refine j_callVi (As := [.int x1]) (st := []) (c0 := 202) X h jc_Pr js_202 (j_lt rfl hn) ⟨jqc_Pr_has, jqi_Pr_has, jqv_Pr_has, jqn_Pr⟩ jlm_G_270 jh_Pr_has rfl (by decide) (by decide) (Nat.le_of_ble_eq_true rfl) ⟨Nat.zero_le _, Nat.zero_le _⟩ (fun v0 I0 h => k_Pr_has (r := (v0, I0)) hF hn h) jd_G_worth_5 rfl (fun v13 I14 h => ?_)
  refine j_if_ne (tgt := 13) X jd_G_worth_8 rfl h (fun h => ?_) (fun h => ?_)
  · refine j_iconst (v := 0) X jd_G_worth_11 (by decide) ?_
    exact j_iret X rfl jd_G_worth_12 h
  · refine j_aload_n X jd_G_worth_13 rfl rfl ?_
    refine j_getr X jf_G_65 jk_0_8 js_0 (j_lt rfl hn) (jp_0_8 hF) jd_G_worth_14 ?_
    refine j_getr X jf_G_364 jk_9_7 js_202 (j_lt rfl hn) (jp_202_7 hF) jd_G_worth_17 ?_
    refine j_getr X jf_G_368 jk_10_0 js_208 (j_lt rfl hn) (jp_208_0 hF) jd_G_worth_20 ?_
    refine j_astore (lv' := [some (.ref (b + 0)), some (.int x1), some (.ref (b + (43 + x2))), some (.int x3), some (.ref (b + 209))]) X jd_G_worth_23 (by decide) rfl ?_
    refine j_aload X jd_G_worth_25 rfl ?_
    refine j_iconst (v := 0) X jd_G_worth_27 (by decide) ?_
    refine j_aload_n X jd_G_worth_28 rfl rfl ?_
    refine j_get X jf_G_230 jk_4_1 (jsp_43 hx2) (j_ltq hx2 rfl hn) jd_G_worth_29 ?_
    refine j_iast X js_209 (j_lt rfl hn) jd_G_worth_32 h (fun h => ?_)
    refine j_mem h (fun I15 h => ?_)
    refine j_aload X jd_G_worth_33 rfl ?_
    refine j_iconst (v := 1) X jd_G_worth_35 (by decide) ?_
    refine j_aload_n X jd_G_worth_36 rfl rfl ?_
    refine j_get X jf_G_80 jk_0_11 js_0 (j_lt rfl hn) jd_G_worth_37 ?_
    refine j_iast X js_209 (j_lt rfl hn) jd_G_worth_40 h (fun h => ?_)
    refine j_mem h (fun I16 h => ?_)
    refine j_aload X jd_G_worth_41 rfl ?_
    refine j_iconst (v := 2) X jd_G_worth_43 (by decide) ?_
    refine j_aload_n X jd_G_worth_44 rfl rfl ?_
    refine j_getr X jf_G_19 jk_0_1 js_0 (j_lt rfl hn) (jp_0_1 hF) jd_G_worth_45 ?_
    refine j_aload_n X jd_G_worth_48 rfl rfl ?_
    refine j_get X jf_G_80 jk_0_11 js_0 (j_lt rfl hn) jd_G_worth_49 ?_
    refine j_callVi (As := [.int (I16 0 11)]) (st := [.int 2, .ref (b + 209)]) (c0 := 38) X h jc_Sk js_38 (j_lt rfl hn) ⟨jqc_Sk_rains, jqi_Sk_rains, jqv_Sk_rains, jqn_Sk⟩ jlm_G_173 jh_Sk_rains rfl (by decide) (by decide) (Nat.le_of_ble_eq_true rfl) ⟨Nat.zero_le _, Nat.zero_le _⟩ (fun v0 I0 h => k_Sk_rains (r := (v0, I0)) hF hn h) jd_G_worth_52 rfl (fun v17 I18 h => ?_)
    refine j_if_eq (tgt := 62) X jd_G_worth_55 rfl h (fun h => ?_) (fun h => ?_)
    · refine j_iconst (v := 0) X jd_G_worth_62 (by decide) ?_
      exact k_G_worth_63 hF hn X hx2 h
    · refine j_iconst (v := 1) X jd_G_worth_58 (by decide) ?_
      refine j_goto (tgt := 63) X jd_G_worth_59 rfl ?_
      exact k_G_worth_63 hF hn X hx2 h
-- PleasureGarden.enter(II)I
theorem jd_G_enter_0 : decode jb_G_enter 0 = .ok (.iload_n 1, 1) := by decide +kernel
theorem jd_G_enter_1 : decode jb_G_enter 1 = .ok (.iconst 0, 1) := by decide +kernel
theorem jd_G_enter_2 : decode jb_G_enter 2 = .ok (.sipush 299, 3) := by decide +kernel
theorem jd_G_enter_5 : decode jb_G_enter 5 = .ok (.invokestatic 92, 3) := by decide +kernel
theorem jd_G_enter_8 : decode jb_G_enter 8 = .ok (.ifCond .eq 13, 3) := by decide +kernel
theorem jd_G_enter_11 : decode jb_G_enter 11 = .ok (.iload_n 2, 1) := by decide +kernel
theorem jd_G_enter_12 : decode jb_G_enter 12 = .ok (.iconst 1, 1) := by decide +kernel
theorem jd_G_enter_13 : decode jb_G_enter 13 = .ok (.bipush 20, 2) := by decide +kernel
theorem jd_G_enter_15 : decode jb_G_enter 15 = .ok (.invokestatic 92, 3) := by decide +kernel
theorem jd_G_enter_18 : decode jb_G_enter 18 = .ok (.ifCond .ne 5, 3) := by decide +kernel
theorem jd_G_enter_21 : decode jb_G_enter 21 = .ok (.iconst (-1), 1) := by decide +kernel
theorem jd_G_enter_22 : decode jb_G_enter 22 = .ok (.ireturn, 1) := by decide +kernel
theorem jd_G_enter_23 : decode jb_G_enter 23 = .ok (.aload_n 0, 1) := by decide +kernel
theorem jd_G_enter_24 : decode jb_G_enter 24 = .ok (.getfield 23, 3) := by decide +kernel
theorem jd_G_enter_27 : decode jb_G_enter 27 = .ok (.iload_n 1, 1) := by decide +kernel
theorem jd_G_enter_28 : decode jb_G_enter 28 = .ok (.baload, 1) := by decide +kernel
theorem jd_G_enter_29 : decode jb_G_enter 29 = .ok (.ifCond .eq 13, 3) := by decide +kernel
theorem jd_G_enter_32 : decode jb_G_enter 32 = .ok (.aload_n 0, 1) := by decide +kernel
theorem jd_G_enter_33 : decode jb_G_enter 33 = .ok (.getfield 10, 3) := by decide +kernel
theorem jd_G_enter_36 : decode jb_G_enter 36 = .ok (.getfield 96, 3) := by decide +kernel
theorem jd_G_enter_39 : decode jb_G_enter 39 = .ok (.ifCond .ne 6, 3) := by decide +kernel
theorem jd_G_enter_42 : decode jb_G_enter 42 = .ok (.bipush (-2), 2) := by decide +kernel
theorem jd_G_enter_44 : decode jb_G_enter 44 = .ok (.ireturn, 1) := by decide +kernel
theorem jd_G_enter_45 : decode jb_G_enter 45 = .ok (.aload_n 0, 1) := by decide +kernel
theorem jd_G_enter_46 : decode jb_G_enter 46 = .ok (.getfield 30, 3) := by decide +kernel
theorem jd_G_enter_49 : decode jb_G_enter 49 = .ok (.iload_n 1, 1) := by decide +kernel
theorem jd_G_enter_50 : decode jb_G_enter 50 = .ok (.invokevirtual 121, 3) := by decide +kernel
theorem jd_G_enter_53 : decode jb_G_enter 53 = .ok (.ifCond .eq 16, 3) := by decide +kernel
theorem jd_G_enter_56 : decode jb_G_enter 56 = .ok (.aload_n 0, 1) := by decide +kernel
theorem jd_G_enter_57 : decode jb_G_enter 57 = .ok (.dup, 1) := by decide +kernel
theorem jd_G_enter_58 : decode jb_G_enter 58 = .ok (.getfield 83, 3) := by decide +kernel
theorem jd_G_enter_61 : decode jb_G_enter 61 = .ok (.iconst 1, 1) := by decide +kernel
theorem jd_G_enter_62 : decode jb_G_enter 62 = .ok (.iadd, 1) := by decide +kernel
theorem jd_G_enter_63 : decode jb_G_enter 63 = .ok (.putfield 83, 3) := by decide +kernel
theorem jd_G_enter_66 : decode jb_G_enter 66 = .ok (.bipush (-5), 2) := by decide +kernel
theorem jd_G_enter_68 : decode jb_G_enter 68 = .ok (.ireturn, 1) := by decide +kernel
theorem jd_G_enter_69 : decode jb_G_enter 69 = .ok (.aload_n 0, 1) := by decide +kernel
theorem jd_G_enter_70 : decode jb_G_enter 70 = .ok (.getfield 30, 3) := by decide +kernel
theorem jd_G_enter_73 : decode jb_G_enter 73 = .ok (.getfield 124, 3) := by decide +kernel
theorem jd_G_enter_76 : decode jb_G_enter 76 = .ok (.bipush 100, 2) := by decide +kernel
theorem jd_G_enter_78 : decode jb_G_enter 78 = .ok (.if_icmp .lt 6, 3) := by decide +kernel
theorem jd_G_enter_81 : decode jb_G_enter 81 = .ok (.bipush (-3), 2) := by decide +kernel
theorem jd_G_enter_83 : decode jb_G_enter 83 = .ok (.ireturn, 1) := by decide +kernel
theorem jd_G_enter_84 : decode jb_G_enter 84 = .ok (.aload_n 0, 1) := by decide +kernel
theorem jd_G_enter_85 : decode jb_G_enter 85 = .ok (.getfield 30, 3) := by decide +kernel
theorem jd_G_enter_88 : decode jb_G_enter 88 = .ok (.iload_n 1, 1) := by decide +kernel
theorem jd_G_enter_89 : decode jb_G_enter 89 = .ok (.iload_n 2, 1) := by decide +kernel
theorem jd_G_enter_90 : decode jb_G_enter 90 = .ok (.aload_n 0, 1) := by decide +kernel
theorem jd_G_enter_91 : decode jb_G_enter 91 = .ok (.getfield 80, 3) := by decide +kernel
theorem jd_G_enter_94 : decode jb_G_enter 94 = .ok (.invokevirtual 125, 3) := by decide +kernel
theorem jd_G_enter_97 : decode jb_G_enter 97 = .ok (.astore_n 3, 1) := by decide +kernel
theorem jd_G_enter_98 : decode jb_G_enter 98 = .ok (.aload_n 0, 1) := by decide +kernel
theorem jd_G_enter_99 : decode jb_G_enter 99 = .ok (.aload_n 3, 1) := by decide +kernel
theorem jd_G_enter_100 : decode jb_G_enter 100 = .ok (.iconst 0, 1) := by decide +kernel
theorem jd_G_enter_101 : decode jb_G_enter 101 = .ok (.invokevirtual 128, 3) := by decide +kernel
theorem jd_G_enter_104 : decode jb_G_enter 104 = .ok (.aload_n 3, 1) := by decide +kernel
theorem jd_G_enter_105 : decode jb_G_enter 105 = .ok (.aload_n 0, 1) := by decide +kernel
theorem jd_G_enter_106 : decode jb_G_enter 106 = .ok (.aload_n 0, 1) := by decide +kernel
theorem jd_G_enter_107 : decode jb_G_enter 107 = .ok (.getfield 65, 3) := by decide +kernel
theorem jd_G_enter_110 : decode jb_G_enter 110 = .ok (.iconst 0, 1) := by decide +kernel
theorem jd_G_enter_111 : decode jb_G_enter 111 = .ok (.aload_n 0, 1) := by decide +kernel
theorem jd_G_enter_112 : decode jb_G_enter 112 = .ok (.getfield 76, 3) := by decide +kernel
theorem jd_G_enter_115 : decode jb_G_enter 115 = .ok (.aload_n 0, 1) := by decide +kernel
theorem jd_G_enter_116 : decode jb_G_enter 116 = .ok (.getfield 76, 3) := by decide +kernel
theorem jd_G_enter_119 : decode jb_G_enter 119 = .ok (.invokevirtual 132, 3) := by decide +kernel
theorem jd_G_enter_122 : decode jb_G_enter 122 = .ok (.aload_n 3, 1) := by decide +kernel
theorem jd_G_enter_123 : decode jb_G_enter 123 = .ok (.iconst 0, 1) := by decide +kernel
theorem jd_G_enter_124 : decode jb_G_enter 124 = .ok (.invokevirtual 135, 3) := by decide +kernel
theorem jd_G_enter_127 : decode jb_G_enter 127 = .ok (.putfield 139, 3) := by decide +kernel
theorem jd_G_enter_130 : decode jb_G_enter 130 = .ok (.aload_n 0, 1) := by decide +kernel
theorem jd_G_enter_131 : decode jb_G_enter 131 = .ok (.dup, 1) := by decide +kernel
theorem jd_G_enter_132 : decode jb_G_enter 132 = .ok (.getfield 89, 3) := by decide +kernel
theorem jd_G_enter_135 : decode jb_G_enter 135 = .ok (.aload_n 3, 1) := by decide +kernel
theorem jd_G_enter_136 : decode jb_G_enter 136 = .ok (.getfield 139, 3) := by decide +kernel
theorem jd_G_enter_139 : decode jb_G_enter 139 = .ok (.iadd, 1) := by decide +kernel
theorem jd_G_enter_140 : decode jb_G_enter 140 = .ok (.putfield 89, 3) := by decide +kernel
theorem jd_G_enter_143 : decode jb_G_enter 143 = .ok (.aload_n 3, 1) := by decide +kernel
theorem jd_G_enter_144 : decode jb_G_enter 144 = .ok (.getfield 144, 3) := by decide +kernel
theorem jd_G_enter_147 : decode jb_G_enter 147 = .ok (.ireturn, 1) := by decide +kernel
def f_G_enter (F : Nat) (x1 : Int32) (x2 : Int32) (I : j_M) : Option (Int32 × j_M) := j_bd (f_G_within F x1 0 299 I) (fun v1 I2 => (if v1 = 0 then some ((-1), I2) else j_bd (f_G_within F x2 1 20 I2) (fun v3 I4 => (if v3 = 0 then some ((-1), I4) else (if j_ok x1 300 = true then (if (I4 40 (j_ix x1)) = 0 then some ((-2), I4) else (if (I4 1 0) = 0 then some ((-2), I4) else j_bd (f_Gu_showsTwice F x1 I4) (fun v5 I6 => (if v5 = 0 then (if (I6 41 0) < 100 then j_bd (f_Gu_add F x1 x2 (I6 0 11) I6) (fun q7 I8 => (if q7 < 100 then j_bd (f_G_settle F q7 0 I8) (fun v9 I10 => j_bd (f_Pr_latest F 0 (I10 0 10) (I10 0 10) I10) (fun v11 I12 => j_bd (f_G_worth F v11 q7 0 I12) (fun v13 I14 => j_let (j_wr I14 (43 + q7) 7 v13) (fun I15 => j_let (j_wr I15 0 14 ((I15 0 14) + (I15 (43 + q7) 7))) (fun I16 => some (I16 (43 + q7) 0, I16)))))) else none)) else some ((-3), I6)) else j_let (j_wr I6 0 12 ((I6 0 12) + 1)) (fun I17 => some ((-5), I17)))))) else none)))))
set_option maxRecDepth 100000 in
set_option maxHeartbeats 4000000 in
theorem k_G_enter {l : Launch} {g : j_G} {b n : Nat} {P : j_R} {F : Nat} (hF : j_Fx 0 260 P) (hn : 260 ≤ n) {x1 : Int32} {x2 : Int32} {I : j_M} {r : Int32 × j_M}  (h : f_G_enter F x1 x2 I = some r) : j_Met l g b n P 69 jy_G_enter jb_G_enter 4 (some .int) [.ref (b + 0), .int x1, .int x2] I r.2 (some (.int r.1)) := by
  unfold f_G_enter at h
  refine j_enter (plainFor_of_name (by decide)) (Nat.le_of_ble_eq_true rfl) [some (.ref (b + 0)), some (.int x1), some (.int x2), none] rfl ?_
  intro p e R s m args below meth c X0 hnm hRc hRs
  have X : j_X p R s m args meth c g b 69 jb_G_enter 4 "PleasureGarden" (some .int) := X0
  clear X0
  refine j_iload_n X jd_G_enter_0 rfl rfl ?_
  refine j_iconst (v := 0) X jd_G_enter_1 (by decide) ?_
  refine j_sipush (v := 299) X jd_G_enter_2 (by decide) ?_
  refine j_callSi (As := [.int x1, .int 0, .int 299]) (st := []) X h ⟨jqc_G_within, jqs_G_within, jqn_G⟩ jlm_G_92 jh_G_within.2 rfl (by decide) (by decide) (Nat.le_of_ble_eq_true rfl) ⟨Nat.zero_le _, Nat.zero_le _⟩ (fun v0 I0 h => k_G_within (r := (v0, I0)) hF hn h) jd_G_enter_5 rfl (fun v1 I2 h => ?_)
  refine j_if_eq (tgt := 21) X jd_G_enter_8 rfl h (fun h => ?_) (fun h => ?_)
  · refine j_iconst (v := (-1)) X jd_G_enter_21 (by decide) ?_
    exact j_iret X rfl jd_G_enter_22 h
  · refine j_iload_n X jd_G_enter_11 rfl rfl ?_
    refine j_iconst (v := 1) X jd_G_enter_12 (by decide) ?_
    refine j_bipush (v := 20) X jd_G_enter_13 (by decide) ?_
    refine j_callSi (As := [.int x2, .int 1, .int 20]) (st := []) X h ⟨jqc_G_within, jqs_G_within, jqn_G⟩ jlm_G_92 jh_G_within.2 rfl (by decide) (by decide) (Nat.le_of_ble_eq_true rfl) ⟨Nat.zero_le _, Nat.zero_le _⟩ (fun v0 I0 h => k_G_within (r := (v0, I0)) hF hn h) jd_G_enter_15 rfl (fun v3 I4 h => ?_)
    refine j_if_ne (tgt := 23) X jd_G_enter_18 rfl h (fun h => ?_) (fun h => ?_)
    · refine j_iconst (v := (-1)) X jd_G_enter_21 (by decide) ?_
      exact j_iret X rfl jd_G_enter_22 h
    · refine j_aload_n X jd_G_enter_23 rfl rfl ?_
      refine j_getr X jf_G_23 jk_0_2 js_0 (j_lt rfl hn) (jp_0_2 hF) jd_G_enter_24 ?_
      refine j_iload_n X jd_G_enter_27 rfl rfl ?_
      refine j_zald X js_40 (j_lt rfl hn) jd_G_enter_28 h (fun _ h => ?_)
      refine j_if_eq (tgt := 42) X jd_G_enter_29 rfl h (fun h => ?_) (fun h => ?_)
      · refine j_bipush (v := (-2)) X jd_G_enter_42 (by decide) ?_
        exact j_iret X rfl jd_G_enter_44 h
      · refine j_aload_n X jd_G_enter_32 rfl rfl ?_
        refine j_getr X jf_G_10 jk_0_0 js_0 (j_lt rfl hn) (jp_0_0 hF) jd_G_enter_33 ?_
        refine j_get X jf_G_96 jk_1_0 js_1 (j_lt rfl hn) jd_G_enter_36 ?_
        refine j_if_ne (tgt := 45) X jd_G_enter_39 rfl h (fun h => ?_) (fun h => ?_)
        · refine j_bipush (v := (-2)) X jd_G_enter_42 (by decide) ?_
          exact j_iret X rfl jd_G_enter_44 h
        · refine j_aload_n X jd_G_enter_45 rfl rfl ?_
          refine j_getr X jf_G_30 jk_0_3 js_0 (j_lt rfl hn) (jp_0_3 hF) jd_G_enter_46 ?_
          refine j_iload_n X jd_G_enter_49 rfl rfl ?_
          refine j_callVi (As := [.int x1]) (st := []) (c0 := 41) X h jc_Gu js_41 (j_lt rfl hn) ⟨jqc_Gu_showsTwice, jqi_Gu_showsTwice, jqv_Gu_showsTwice, jqn_Gu⟩ jlm_G_121 jh_Gu_showsTwice rfl (by decide) (by decide) (Nat.le_of_ble_eq_true rfl) ⟨Nat.zero_le _, Nat.zero_le _⟩ (fun v0 I0 h => k_Gu_showsTwice (r := (v0, I0)) hF hn h) jd_G_enter_50 rfl (fun v5 I6 h => ?_)
          refine j_if_eq (tgt := 69) X jd_G_enter_53 rfl h (fun h => ?_) (fun h => ?_)
          · refine j_aload_n X jd_G_enter_69 rfl rfl ?_
            refine j_getr X jf_G_30 jk_0_3 js_0 (j_lt rfl hn) (jp_0_3 hF) jd_G_enter_70 ?_
            refine j_get X jf_G_124 jk_3_0 js_41 (j_lt rfl hn) jd_G_enter_73 ?_
            refine j_bipush (v := 100) X jd_G_enter_76 (by decide) ?_
            refine j_icmp_lt (tgt := 84) X jd_G_enter_78 rfl h (fun h => ?_) (fun h => ?_)
            · refine j_aload_n X jd_G_enter_84 rfl rfl ?_
              refine j_getr X jf_G_30 jk_0_3 js_0 (j_lt rfl hn) (jp_0_3 hF) jd_G_enter_85 ?_
              refine j_iload_n X jd_G_enter_88 rfl rfl ?_
              refine j_iload_n X jd_G_enter_89 rfl rfl ?_
              refine j_aload_n X jd_G_enter_90 rfl rfl ?_
              refine j_get X jf_G_80 jk_0_11 js_0 (j_lt rfl hn) jd_G_enter_91 ?_
              refine j_callVa (As := [.int x1, .int x2, .int (I6 0 11)]) (st := []) (c0 := 41) X 43 h jc_Gu js_41 (j_lt rfl hn) ⟨jqc_Gu_add, jqi_Gu_add, jqv_Gu_add, jqn_Gu⟩ jlm_G_125 jh_Gu_add rfl (by decide) (by decide) (Nat.le_of_ble_eq_true rfl) ⟨Nat.zero_le _, Nat.zero_le _⟩ (fun v0 I0 h => k_Gu_add (r := (v0, I0)) hF hn h) jd_G_enter_94 rfl (fun q7 I8 h => ?_)
              refine j_guard h (fun hq7 h => ?_)
              refine j_astore_n (lv' := [some (.ref (b + 0)), some (.int x1), some (.int x2), some (.ref (b + (43 + q7)))]) X jd_G_enter_97 rfl (by decide) rfl ?_
              refine j_aload_n X jd_G_enter_98 rfl rfl ?_
              refine j_aload_n X jd_G_enter_99 rfl rfl ?_
              refine j_iconst (v := 0) X jd_G_enter_100 (by decide) ?_
              refine j_callVv (As := [.ref (b + (43 + q7)), .int 0]) (st := []) (c0 := 0) X h jc_G js_0 (j_lt rfl hn) ⟨jqc_G_settle, jqi_G_settle, jqv_G_settle, jqn_G⟩ jlm_G_128 jh_G_settle rfl (by decide) (by decide) (Nat.le_of_ble_eq_true rfl) ⟨Nat.zero_le _, Nat.zero_le _⟩ (fun v0 I0 h => k_G_settle (r := (v0, I0)) hF hn hq7 h) jd_G_enter_101 rfl (fun v9 I10 h => ?_)
              refine j_aload_n X jd_G_enter_104 rfl rfl ?_
              refine j_aload_n X jd_G_enter_105 rfl rfl ?_
              refine j_aload_n X jd_G_enter_106 rfl rfl ?_
              refine j_getr X jf_G_65 jk_0_8 js_0 (j_lt rfl hn) (jp_0_8 hF) jd_G_enter_107 ?_
              refine j_iconst (v := 0) X jd_G_enter_110 (by decide) ?_
              refine j_aload_n X jd_G_enter_111 rfl rfl ?_
              refine j_get X jf_G_76 jk_0_10 js_0 (j_lt rfl hn) jd_G_enter_112 ?_
              refine j_aload_n X jd_G_enter_115 rfl rfl ?_
              refine j_get X jf_G_76 jk_0_10 js_0 (j_lt rfl hn) jd_G_enter_116 ?_
              refine j_callVi (As := [.int 0, .int (I10 0 10), .int (I10 0 10)]) (st := [.ref (b + 0), .ref (b + (43 + q7))]) (c0 := 202) X h jc_Pr js_202 (j_lt rfl hn) ⟨jqc_Pr_latest, jqi_Pr_latest, jqv_Pr_latest, jqn_Pr⟩ jlm_G_132 jh_Pr_latest rfl (by decide) (by decide) (Nat.le_of_ble_eq_true rfl) ⟨Nat.zero_le _, Nat.zero_le _⟩ (fun v0 I0 h => k_Pr_latest (r := (v0, I0)) hF hn h) jd_G_enter_119 rfl (fun v11 I12 h => ?_)
              refine j_aload_n X jd_G_enter_122 rfl rfl ?_
              refine j_iconst (v := 0) X jd_G_enter_123 (by decide) ?_
              refine j_callVi (As := [.int v11, .ref (b + (43 + q7)), .int 0]) (st := [.ref (b + (43 + q7))]) (c0 := 0) X h jc_G js_0 (j_lt rfl hn) ⟨jqc_G_worth, jqi_G_worth, jqv_G_worth, jqn_G⟩ jlm_G_135 jh_G_worth rfl (by decide) (by decide) (Nat.le_of_ble_eq_true rfl) ⟨Nat.zero_le _, Nat.zero_le _⟩ (fun v0 I0 h => k_G_worth (r := (v0, I0)) hF hn hq7 h) jd_G_enter_124 rfl (fun v13 I14 h => ?_)
              refine j_puti X jt_Pa jto_Pa jn_Pa jf_G_139 jk_4_7 (jsp_43 hq7) (j_ltq hq7 rfl hn) (Or.inl rfl) rfl jd_G_enter_127 ?_
              refine j_mem h (fun I15 h => ?_)
              refine j_aload_n X jd_G_enter_130 rfl rfl ?_
              refine j_dup X jd_G_enter_131 rfl ?_
              refine j_get X jf_G_89 jk_0_14 js_0 (j_lt rfl hn) jd_G_enter_132 ?_
              refine j_aload_n X jd_G_enter_135 rfl rfl ?_
              refine j_get X jf_G_139 jk_4_7 (jsp_43 hq7) (j_ltq hq7 rfl hn) jd_G_enter_136 ?_
              refine j_iadd X jd_G_enter_139 ?_
              refine j_puti X jt_G jto_G jn_G jf_G_89 jk_0_14 js_0 (j_lt rfl hn) (Or.inl rfl) rfl jd_G_enter_140 ?_
              refine j_mem h (fun I16 h => ?_)
              refine j_aload_n X jd_G_enter_143 rfl rfl ?_
              refine j_get X jf_G_144 jk_4_0 (jsp_43 hq7) (j_ltq hq7 rfl hn) jd_G_enter_144 ?_
              exact j_iret X rfl jd_G_enter_147 h
            · refine j_bipush (v := (-3)) X jd_G_enter_81 (by decide) ?_
              exact j_iret X rfl jd_G_enter_83 h
          · refine j_aload_n X jd_G_enter_56 rfl rfl ?_
            refine j_dup X jd_G_enter_57 rfl ?_
            refine j_get X jf_G_83 jk_0_12 js_0 (j_lt rfl hn) jd_G_enter_58 ?_
            refine j_iconst (v := 1) X jd_G_enter_61 (by decide) ?_
            refine j_iadd X jd_G_enter_62 ?_
            refine j_puti X jt_G jto_G jn_G jf_G_83 jk_0_12 js_0 (j_lt rfl hn) (Or.inl rfl) rfl jd_G_enter_63 ?_
            refine j_mem h (fun I17 h => ?_)
            refine j_bipush (v := (-5)) X jd_G_enter_66 (by decide) ?_
            exact j_iret X rfl jd_G_enter_68 h
-- PleasureGarden.gives(III)I
theorem jd_G_gives_0 : decode jb_G_gives 0 = .ok (.aload_n 0, 1) := by decide +kernel
theorem jd_G_gives_1 : decode jb_G_gives 1 = .ok (.getfield 65, 3) := by decide +kernel
theorem jd_G_gives_4 : decode jb_G_gives 4 = .ok (.iload_n 1, 1) := by decide +kernel
theorem jd_G_gives_5 : decode jb_G_gives 5 = .ok (.invokevirtual 270, 3) := by decide +kernel
theorem jd_G_gives_8 : decode jb_G_gives 8 = .ok (.ifCond .eq 24, 3) := by decide +kernel
theorem jd_G_gives_11 : decode jb_G_gives 11 = .ok (.aload_n 0, 1) := by decide +kernel
theorem jd_G_gives_12 : decode jb_G_gives 12 = .ok (.getfield 30, 3) := by decide +kernel
theorem jd_G_gives_15 : decode jb_G_gives 15 = .ok (.iload_n 2, 1) := by decide +kernel
theorem jd_G_gives_16 : decode jb_G_gives 16 = .ok (.invokevirtual 147, 3) := by decide +kernel
theorem jd_G_gives_19 : decode jb_G_gives 19 = .ok (.ifCond .eq 13, 3) := by decide +kernel
theorem jd_G_gives_22 : decode jb_G_gives 22 = .ok (.iload_n 3, 1) := by decide +kernel
theorem jd_G_gives_23 : decode jb_G_gives 23 = .ok (.iconst 0, 1) := by decide +kernel
theorem jd_G_gives_24 : decode jb_G_gives 24 = .ok (.bipush 99, 2) := by decide +kernel
theorem jd_G_gives_26 : decode jb_G_gives 26 = .ok (.invokestatic 92, 3) := by decide +kernel
theorem jd_G_gives_29 : decode jb_G_gives 29 = .ok (.ifCond .ne 7, 3) := by decide +kernel
theorem jd_G_gives_32 : decode jb_G_gives 32 = .ok (.ldc_w 271, 3) := by decide +kernel
theorem jd_G_gives_35 : decode jb_G_gives 35 = .ok (.ireturn, 1) := by decide +kernel
theorem jd_G_gives_36 : decode jb_G_gives 36 = .ok (.aload_n 0, 1) := by decide +kernel
theorem jd_G_gives_37 : decode jb_G_gives 37 = .ok (.iload_n 1, 1) := by decide +kernel
theorem jd_G_gives_38 : decode jb_G_gives 38 = .ok (.aload_n 0, 1) := by decide +kernel
theorem jd_G_gives_39 : decode jb_G_gives 39 = .ok (.getfield 30, 3) := by decide +kernel
theorem jd_G_gives_42 : decode jb_G_gives 42 = .ok (.getfield 148, 3) := by decide +kernel
theorem jd_G_gives_45 : decode jb_G_gives 45 = .ok (.iload_n 2, 1) := by decide +kernel
theorem jd_G_gives_46 : decode jb_G_gives 46 = .ok (.aaload, 1) := by decide +kernel
theorem jd_G_gives_47 : decode jb_G_gives 47 = .ok (.iload_n 3, 1) := by decide +kernel
theorem jd_G_gives_48 : decode jb_G_gives 48 = .ok (.invokevirtual 135, 3) := by decide +kernel
theorem jd_G_gives_51 : decode jb_G_gives 51 = .ok (.ireturn, 1) := by decide +kernel
def f_G_gives (F : Nat) (x1 : Int32) (x2 : Int32) (x3 : Int32) (I : j_M) : Option (Int32 × j_M) := j_bd (f_Pr_has F x1 I) (fun v1 I2 => (if v1 = 0 then some ((-2000000000), I2) else j_bd (f_Gu_has F x2 I2) (fun v3 I4 => (if v3 = 0 then some ((-2000000000), I4) else j_bd (f_G_within F x3 0 99 I4) (fun v5 I6 => (if v5 = 0 then some ((-2000000000), I6) else (if j_ok x2 100 = true then j_bd (f_G_worth F x1 (j_ix x2) x3 I6) (fun v8 I9 => some (v8, I9)) else none)))))))
set_option maxRecDepth 100000 in
set_option maxHeartbeats 4000000 in
theorem k_G_gives {l : Launch} {g : j_G} {b n : Nat} {P : j_R} {F : Nat} (hF : j_Fx 0 260 P) (hn : 260 ≤ n) {x1 : Int32} {x2 : Int32} {x3 : Int32} {I : j_M} {r : Int32 × j_M}  (h : f_G_gives F x1 x2 x3 I = some r) : j_Met l g b n P 69 jy_G_gives jb_G_gives 4 (some .int) [.ref (b + 0), .int x1, .int x2, .int x3] I r.2 (some (.int r.1)) := by
  unfold f_G_gives at h
  refine j_enter (plainFor_of_name (by decide)) (Nat.le_of_ble_eq_true rfl) [some (.ref (b + 0)), some (.int x1), some (.int x2), some (.int x3)] rfl ?_
  intro p e R s m args below meth c X0 hnm hRc hRs
  have X : j_X p R s m args meth c g b 69 jb_G_gives 4 "PleasureGarden" (some .int) := X0
  clear X0
  refine j_aload_n X jd_G_gives_0 rfl rfl ?_
  refine j_getr X jf_G_65 jk_0_8 js_0 (j_lt rfl hn) (jp_0_8 hF) jd_G_gives_1 ?_
  refine j_iload_n X jd_G_gives_4 rfl rfl ?_
  refine j_callVi (As := [.int x1]) (st := []) (c0 := 202) X h jc_Pr js_202 (j_lt rfl hn) ⟨jqc_Pr_has, jqi_Pr_has, jqv_Pr_has, jqn_Pr⟩ jlm_G_270 jh_Pr_has rfl (by decide) (by decide) (Nat.le_of_ble_eq_true rfl) ⟨Nat.zero_le _, Nat.zero_le _⟩ (fun v0 I0 h => k_Pr_has (r := (v0, I0)) hF hn h) jd_G_gives_5 rfl (fun v1 I2 h => ?_)
  refine j_if_eq (tgt := 32) X jd_G_gives_8 rfl h (fun h => ?_) (fun h => ?_)
  · refine j_ldcw (v := (-2000000000)) X jlc_G_271 jd_G_gives_32 ?_
    exact j_iret X rfl jd_G_gives_35 h
  · refine j_aload_n X jd_G_gives_11 rfl rfl ?_
    refine j_getr X jf_G_30 jk_0_3 js_0 (j_lt rfl hn) (jp_0_3 hF) jd_G_gives_12 ?_
    refine j_iload_n X jd_G_gives_15 rfl rfl ?_
    refine j_callVi (As := [.int x2]) (st := []) (c0 := 41) X h jc_Gu js_41 (j_lt rfl hn) ⟨jqc_Gu_has, jqi_Gu_has, jqv_Gu_has, jqn_Gu⟩ jlm_G_147 jh_Gu_has rfl (by decide) (by decide) (Nat.le_of_ble_eq_true rfl) ⟨Nat.zero_le _, Nat.zero_le _⟩ (fun v0 I0 h => k_Gu_has (r := (v0, I0)) hF hn h) jd_G_gives_16 rfl (fun v3 I4 h => ?_)
    refine j_if_eq (tgt := 32) X jd_G_gives_19 rfl h (fun h => ?_) (fun h => ?_)
    · refine j_ldcw (v := (-2000000000)) X jlc_G_271 jd_G_gives_32 ?_
      exact j_iret X rfl jd_G_gives_35 h
    · refine j_iload_n X jd_G_gives_22 rfl rfl ?_
      refine j_iconst (v := 0) X jd_G_gives_23 (by decide) ?_
      refine j_bipush (v := 99) X jd_G_gives_24 (by decide) ?_
      refine j_callSi (As := [.int x3, .int 0, .int 99]) (st := []) X h ⟨jqc_G_within, jqs_G_within, jqn_G⟩ jlm_G_92 jh_G_within.2 rfl (by decide) (by decide) (Nat.le_of_ble_eq_true rfl) ⟨Nat.zero_le _, Nat.zero_le _⟩ (fun v0 I0 h => k_G_within (r := (v0, I0)) hF hn h) jd_G_gives_26 rfl (fun v5 I6 h => ?_)
      refine j_if_ne (tgt := 36) X jd_G_gives_29 rfl h (fun h => ?_) (fun h => ?_)
      · refine j_ldcw (v := (-2000000000)) X jlc_G_271 jd_G_gives_32 ?_
        exact j_iret X rfl jd_G_gives_35 h
      · refine j_aload_n X jd_G_gives_36 rfl rfl ?_
        refine j_iload_n X jd_G_gives_37 rfl rfl ?_
        refine j_aload_n X jd_G_gives_38 rfl rfl ?_
        refine j_getr X jf_G_30 jk_0_3 js_0 (j_lt rfl hn) (jp_0_3 hF) jd_G_gives_39 ?_
        refine j_getr X jf_G_148 jk_3_1 js_41 (j_lt rfl hn) (jp_41_1 hF) jd_G_gives_42 ?_
        refine j_iload_n X jd_G_gives_45 rfl rfl ?_
        refine j_aald X rfl rfl js_42 (j_lt rfl hn) jd_G_gives_46 (fun q => ja_42 hF _ (j_ok_lt q)) h (fun hb7 h => ?_)
        refine j_iload_n X jd_G_gives_47 rfl rfl ?_
        refine j_callVi (As := [.int x1, .ref (b + (43 + (j_ix x2))), .int x3]) (st := []) (c0 := 0) X h jc_G js_0 (j_lt rfl hn) ⟨jqc_G_worth, jqi_G_worth, jqv_G_worth, jqn_G⟩ jlm_G_135 jh_G_worth rfl (by decide) (by decide) (Nat.le_of_ble_eq_true rfl) ⟨Nat.zero_le _, Nat.zero_le _⟩ (fun v0 I0 h => k_G_worth (r := (v0, I0)) hF hn (j_ok_lt hb7) h) jd_G_gives_48 rfl (fun v8 I9 h => ?_)
        exact j_iret X rfl jd_G_gives_51 h
-- PleasureGarden.showOut(LPleasureGarden$Party;)I
theorem jd_G_showOut_0 : decode jb_G_showOut 0 = .ok (.aload_n 0, 1) := by decide +kernel
theorem jd_G_showOut_1 : decode jb_G_showOut 1 = .ok (.aload_n 0, 1) := by decide +kernel
theorem jd_G_showOut_2 : decode jb_G_showOut 2 = .ok (.getfield 65, 3) := by decide +kernel
theorem jd_G_showOut_5 : decode jb_G_showOut 5 = .ok (.iconst 2, 1) := by decide +kernel
theorem jd_G_showOut_6 : decode jb_G_showOut 6 = .ok (.aload_n 0, 1) := by decide +kernel
theorem jd_G_showOut_7 : decode jb_G_showOut 7 = .ok (.getfield 76, 3) := by decide +kernel
theorem jd_G_showOut_10 : decode jb_G_showOut 10 = .ok (.aload_n 0, 1) := by decide +kernel
theorem jd_G_showOut_11 : decode jb_G_showOut 11 = .ok (.getfield 76, 3) := by decide +kernel
theorem jd_G_showOut_14 : decode jb_G_showOut 14 = .ok (.invokevirtual 132, 3) := by decide +kernel
theorem jd_G_showOut_17 : decode jb_G_showOut 17 = .ok (.aload_n 1, 1) := by decide +kernel
theorem jd_G_showOut_18 : decode jb_G_showOut 18 = .ok (.iconst 0, 1) := by decide +kernel
theorem jd_G_showOut_19 : decode jb_G_showOut 19 = .ok (.invokevirtual 135, 3) := by decide +kernel
theorem jd_G_showOut_22 : decode jb_G_showOut 22 = .ok (.istore_n 2, 1) := by decide +kernel
theorem jd_G_showOut_23 : decode jb_G_showOut 23 = .ok (.aload_n 0, 1) := by decide +kernel
theorem jd_G_showOut_24 : decode jb_G_showOut 24 = .ok (.dup, 1) := by decide +kernel
theorem jd_G_showOut_25 : decode jb_G_showOut 25 = .ok (.getfield 89, 3) := by decide +kernel
theorem jd_G_showOut_28 : decode jb_G_showOut 28 = .ok (.iload_n 2, 1) := by decide +kernel
theorem jd_G_showOut_29 : decode jb_G_showOut 29 = .ok (.isub, 1) := by decide +kernel
theorem jd_G_showOut_30 : decode jb_G_showOut 30 = .ok (.putfield 89, 3) := by decide +kernel
theorem jd_G_showOut_33 : decode jb_G_showOut 33 = .ok (.aload_n 1, 1) := by decide +kernel
theorem jd_G_showOut_34 : decode jb_G_showOut 34 = .ok (.iload_n 2, 1) := by decide +kernel
theorem jd_G_showOut_35 : decode jb_G_showOut 35 = .ok (.putfield 330, 3) := by decide +kernel
theorem jd_G_showOut_38 : decode jb_G_showOut 38 = .ok (.aload_n 0, 1) := by decide +kernel
theorem jd_G_showOut_39 : decode jb_G_showOut 39 = .ok (.aload_n 1, 1) := by decide +kernel
theorem jd_G_showOut_40 : decode jb_G_showOut 40 = .ok (.invokevirtual 239, 3) := by decide +kernel
theorem jd_G_showOut_43 : decode jb_G_showOut 43 = .ok (.aload_n 1, 1) := by decide +kernel
theorem jd_G_showOut_44 : decode jb_G_showOut 44 = .ok (.getfield 152, 3) := by decide +kernel
theorem jd_G_showOut_47 : decode jb_G_showOut 47 = .ok (.ifCond .ne 14, 3) := by decide +kernel
theorem jd_G_showOut_50 : decode jb_G_showOut 50 = .ok (.aload_n 0, 1) := by decide +kernel
theorem jd_G_showOut_51 : decode jb_G_showOut 51 = .ok (.getfield 37, 3) := by decide +kernel
theorem jd_G_showOut_54 : decode jb_G_showOut 54 = .ok (.aload_n 1, 1) := by decide +kernel
theorem jd_G_showOut_55 : decode jb_G_showOut 55 = .ok (.getfield 323, 3) := by decide +kernel
theorem jd_G_showOut_58 : decode jb_G_showOut 58 = .ok (.invokevirtual 326, 3) := by decide +kernel
theorem jd_G_showOut_61 : decode jb_G_showOut 61 = .ok (.aload_n 1, 1) := by decide +kernel
theorem jd_G_showOut_62 : decode jb_G_showOut 62 = .ok (.iconst 2, 1) := by decide +kernel
theorem jd_G_showOut_63 : decode jb_G_showOut 63 = .ok (.putfield 152, 3) := by decide +kernel
theorem jd_G_showOut_66 : decode jb_G_showOut 66 = .ok (.aload_n 1, 1) := by decide +kernel
theorem jd_G_showOut_67 : decode jb_G_showOut 67 = .ok (.iconst (-1), 1) := by decide +kernel
theorem jd_G_showOut_68 : decode jb_G_showOut 68 = .ok (.putfield 155, 3) := by decide +kernel
theorem jd_G_showOut_71 : decode jb_G_showOut 71 = .ok (.aload_n 1, 1) := by decide +kernel
theorem jd_G_showOut_72 : decode jb_G_showOut 72 = .ok (.iconst (-1), 1) := by decide +kernel
theorem jd_G_showOut_73 : decode jb_G_showOut 73 = .ok (.putfield 317, 3) := by decide +kernel
theorem jd_G_showOut_76 : decode jb_G_showOut 76 = .ok (.iload_n 2, 1) := by decide +kernel
theorem jd_G_showOut_77 : decode jb_G_showOut 77 = .ok (.ireturn, 1) := by decide +kernel
def f_G_showOut_61 (F : Nat)  (x1 : Nat) (x2 : Int32) (I : j_M) : Option (Int32 × j_M) := j_let (j_wr I (43 + x1) 3 2) (fun I1 => j_let (j_wr I1 (43 + x1) 4 (-1)) (fun I2 => j_let (j_wr I2 (43 + x1) 5 (-1)) (fun I3 => some (x2, I3))))
def f_G_showOut (F : Nat) (x1 : Nat) (I : j_M) : Option (Int32 × j_M) := j_bd (f_Pr_latest F 2 (I 0 10) (I 0 10) I) (fun v4 I5 => j_bd (f_G_worth F v4 x1 0 I5) (fun v6 I7 => j_let (j_wr I7 0 14 ((I7 0 14) - v6)) (fun I8 => j_let (j_wr I8 (43 + x1) 8 v6) (fun I9 => j_bd (f_G_quitBox F x1 I9) (fun v10 I11 => (if (I11 (43 + x1) 3) = 0 then j_bd (f_Wa_endStay F (I11 (43 + x1) 11) I11) (fun v12 I13 => f_G_showOut_61 F x1 v6 I13) else f_G_showOut_61 F x1 v6 I11))))))
set_option maxRecDepth 100000 in
set_option maxHeartbeats 4000000 in
theorem k_G_showOut_61 {p : Program} {l : Launch} {e : Env} {R : Room} {s : State} {m : MethodId} {args : Array Value} {below : List Frame} {meth : Method} {c : Code} {g : j_G} {b n : Nat} {P : j_R} {F : Nat} (hF : j_Fx 0 260 P) (hn : 260 ≤ n) (X : j_X p R s m args meth c g b 69 jb_G_showOut 3 "PleasureGarden" (some .int))  {x1 : Nat} {x2 : Int32} {I : j_M} {r : Int32 × j_M} (hx1 : x1 < 100) (h : f_G_showOut_61 F x1 x2 I = some r) : j_W p l e R s m args below meth c 3 g b n 0 0 (j_Qi g b n P below args s r) I P 61 [none, some (.ref (b + (43 + x1))), some (.int x2)] [] := by
  unfold f_G_showOut_61 at h
  refine j_aload_n X jd_G_showOut_61 rfl rfl ?_
  refine j_iconst (v := 2) X jd_G_showOut_62 (by decide) ?_
  refine j_puti X jt_Pa jto_Pa jn_Pa jf_G_152 jk_4_3 (jsp_43 hx1) (j_ltq hx1 rfl hn) (Or.inl rfl) rfl jd_G_showOut_63 ?_
  refine j_mem h (fun I1 h => ?_)
  refine j_aload_n X jd_G_showOut_66 rfl rfl ?_
  refine j_iconst (v := (-1)) X jd_G_showOut_67 (by decide) ?_
  refine j_puti X jt_Pa jto_Pa jn_Pa jf_G_155 jk_4_4 (jsp_43 hx1) (j_ltq hx1 rfl hn) (Or.inl rfl) rfl jd_G_showOut_68 ?_
  refine j_mem h (fun I2 h => ?_)
  refine j_aload_n X jd_G_showOut_71 rfl rfl ?_
  refine j_iconst (v := (-1)) X jd_G_showOut_72 (by decide) ?_
  refine j_puti X jt_Pa jto_Pa jn_Pa jf_G_317 jk_4_5 (jsp_43 hx1) (j_ltq hx1 rfl hn) (Or.inl rfl) rfl jd_G_showOut_73 ?_
  refine j_mem h (fun I3 h => ?_)
  refine j_iload_n X jd_G_showOut_76 rfl rfl ?_
  exact j_iret X rfl jd_G_showOut_77 h
set_option maxRecDepth 100000 in
set_option maxHeartbeats 4000000 in
theorem k_G_showOut {l : Launch} {g : j_G} {b n : Nat} {P : j_R} {F : Nat} (hF : j_Fx 0 260 P) (hn : 260 ≤ n) {x1 : Nat} {I : j_M} {r : Int32 × j_M} (hx1 : x1 < 100) (h : f_G_showOut F x1 I = some r) : j_Met l g b n P 69 jy_G_showOut jb_G_showOut 3 (some .int) [.ref (b + 0), .ref (b + (43 + x1))] I r.2 (some (.int r.1)) := by
  unfold f_G_showOut at h
  refine j_enter (plainFor_of_name (by decide)) (Nat.le_of_ble_eq_true rfl) [some (.ref (b + 0)), some (.ref (b + (43 + x1))), none] rfl ?_
  intro p e R s m args below meth c X0 hnm hRc hRs
  have X : j_X p R s m args meth c g b 69 jb_G_showOut 3 "PleasureGarden" (some .int) := X0
  clear X0
  refine j_aload_n X jd_G_showOut_0 rfl rfl ?_
  refine j_aload_n X jd_G_showOut_1 rfl rfl ?_
  refine j_getr X jf_G_65 jk_0_8 js_0 (j_lt rfl hn) (jp_0_8 hF) jd_G_showOut_2 ?_
  refine j_iconst (v := 2) X jd_G_showOut_5 (by decide) ?_
  refine j_aload_n X jd_G_showOut_6 rfl rfl ?_
  refine j_get X jf_G_76 jk_0_10 js_0 (j_lt rfl hn) jd_G_showOut_7 ?_
  refine j_aload_n X jd_G_showOut_10 rfl rfl ?_
  refine j_get X jf_G_76 jk_0_10 js_0 (j_lt rfl hn) jd_G_showOut_11 ?_
  refine j_callVi (As := [.int 2, .int (I 0 10), .int (I 0 10)]) (st := [.ref (b + 0)]) (c0 := 202) X h jc_Pr js_202 (j_lt rfl hn) ⟨jqc_Pr_latest, jqi_Pr_latest, jqv_Pr_latest, jqn_Pr⟩ jlm_G_132 jh_Pr_latest rfl (by decide) (by decide) (Nat.le_of_ble_eq_true rfl) ⟨Nat.zero_le _, Nat.zero_le _⟩ (fun v0 I0 h => k_Pr_latest (r := (v0, I0)) hF hn h) jd_G_showOut_14 rfl (fun v4 I5 h => ?_)
  refine j_aload_n X jd_G_showOut_17 rfl rfl ?_
  refine j_iconst (v := 0) X jd_G_showOut_18 (by decide) ?_
  refine j_callVi (As := [.int v4, .ref (b + (43 + x1)), .int 0]) (st := []) (c0 := 0) X h jc_G js_0 (j_lt rfl hn) ⟨jqc_G_worth, jqi_G_worth, jqv_G_worth, jqn_G⟩ jlm_G_135 jh_G_worth rfl (by decide) (by decide) (Nat.le_of_ble_eq_true rfl) ⟨Nat.zero_le _, Nat.zero_le _⟩ (fun v0 I0 h => k_G_worth (r := (v0, I0)) hF hn hx1 h) jd_G_showOut_19 rfl (fun v6 I7 h => ?_)
  refine j_istore_n (lv' := [some (.ref (b + 0)), some (.ref (b + (43 + x1))), some (.int v6)]) X jd_G_showOut_22 rfl (by decide) rfl ?_
  refine j_aload_n X jd_G_showOut_23 rfl rfl ?_
  refine j_dup X jd_G_showOut_24 rfl ?_
  refine j_get X jf_G_89 jk_0_14 js_0 (j_lt rfl hn) jd_G_showOut_25 ?_
  refine j_iload_n X jd_G_showOut_28 rfl rfl ?_
  refine j_isub X jd_G_showOut_29 ?_
  refine j_puti X jt_G jto_G jn_G jf_G_89 jk_0_14 js_0 (j_lt rfl hn) (Or.inl rfl) rfl jd_G_showOut_30 ?_
  refine j_mem h (fun I8 h => ?_)
  refine j_aload_n X jd_G_showOut_33 rfl rfl ?_
  refine j_iload_n X jd_G_showOut_34 rfl rfl ?_
  refine j_puti X jt_Pa jto_Pa jn_Pa jf_G_330 jk_4_8 (jsp_43 hx1) (j_ltq hx1 rfl hn) (Or.inl rfl) rfl jd_G_showOut_35 ?_
  refine j_mem h (fun I9 h => ?_)
  refine j_aload_n X jd_G_showOut_38 rfl rfl ?_
  refine j_aload_n X jd_G_showOut_39 rfl rfl ?_
  refine j_callVv (As := [.ref (b + (43 + x1))]) (st := []) (c0 := 0) X h jc_G js_0 (j_lt rfl hn) ⟨jqc_G_quitBox, jqi_G_quitBox, jqv_G_quitBox, jqn_G⟩ jlm_G_239 jh_G_quitBox rfl (by decide) (by decide) (Nat.le_of_ble_eq_true rfl) ⟨Nat.zero_le _, Nat.zero_le _⟩ (fun v0 I0 h => k_G_quitBox (r := (v0, I0)) hF hn hx1 h) jd_G_showOut_40 rfl (fun v10 I11 h => ?_)
  refine j_aload_n X jd_G_showOut_43 rfl rfl ?_
  refine j_get X jf_G_152 jk_4_3 (jsp_43 hx1) (j_ltq hx1 rfl hn) jd_G_showOut_44 ?_
  refine j_if_ne (tgt := 61) X jd_G_showOut_47 rfl h (fun h => ?_) (fun h => ?_)
  · refine j_aload_n X jd_G_showOut_50 rfl rfl ?_
    refine j_getr X jf_G_37 jk_0_4 js_0 (j_lt rfl hn) (jp_0_4 hF) jd_G_showOut_51 ?_
    refine j_aload_n X jd_G_showOut_54 rfl rfl ?_
    refine j_get X jf_G_323 jk_4_11 (jsp_43 hx1) (j_ltq hx1 rfl hn) jd_G_showOut_55 ?_
    refine j_callVv (As := [.int (I11 (43 + x1) 11)]) (st := []) (c0 := 143) X h jc_Wa js_143 (j_lt rfl hn) ⟨jqc_Wa_endStay, jqi_Wa_endStay, jqv_Wa_endStay, jqn_Wa⟩ jlm_G_326 jh_Wa_endStay rfl (by decide) (by decide) (Nat.le_of_ble_eq_true rfl) ⟨Nat.zero_le _, Nat.zero_le _⟩ (fun v0 I0 h => k_Wa_endStay (r := (v0, I0)) hF hn h) jd_G_showOut_58 rfl (fun v12 I13 h => ?_)
    refine j_sub [false, true, true] (lv' := [none, some (.ref (b + (43 + x1))), some (.int v6)]) rfl ?_
    exact k_G_showOut_61 hF hn X hx1 h
  · refine j_sub [false, true, true] (lv' := [none, some (.ref (b + (43 + x1))), some (.int v6)]) rfl ?_
    exact k_G_showOut_61 hF hn X hx1 h
-- PleasureGarden.serveOrders()V
theorem jd_G_serveOrders_0 : decode jb_G_serveOrders 0 = .ok (.aload_n 0, 1) := by decide +kernel
theorem jd_G_serveOrders_1 : decode jb_G_serveOrders 1 = .ok (.getfield 65, 3) := by decide +kernel
theorem jd_G_serveOrders_4 : decode jb_G_serveOrders 4 = .ok (.iconst 1, 1) := by decide +kernel
theorem jd_G_serveOrders_5 : decode jb_G_serveOrders 5 = .ok (.aload_n 0, 1) := by decide +kernel
theorem jd_G_serveOrders_6 : decode jb_G_serveOrders 6 = .ok (.getfield 76, 3) := by decide +kernel
theorem jd_G_serveOrders_9 : decode jb_G_serveOrders 9 = .ok (.aload_n 0, 1) := by decide +kernel
theorem jd_G_serveOrders_10 : decode jb_G_serveOrders 10 = .ok (.getfield 76, 3) := by decide +kernel
theorem jd_G_serveOrders_13 : decode jb_G_serveOrders 13 = .ok (.invokevirtual 132, 3) := by decide +kernel
theorem jd_G_serveOrders_16 : decode jb_G_serveOrders 16 = .ok (.istore_n 1, 1) := by decide +kernel
theorem jd_G_serveOrders_17 : decode jb_G_serveOrders 17 = .ok (.aload_n 0, 1) := by decide +kernel
theorem jd_G_serveOrders_18 : decode jb_G_serveOrders 18 = .ok (.getfield 58, 3) := by decide +kernel
theorem jd_G_serveOrders_21 : decode jb_G_serveOrders 21 = .ok (.getfield 250, 3) := by decide +kernel
theorem jd_G_serveOrders_24 : decode jb_G_serveOrders 24 = .ok (.aload_n 0, 1) := by decide +kernel
theorem jd_G_serveOrders_25 : decode jb_G_serveOrders 25 = .ok (.getfield 58, 3) := by decide +kernel
theorem jd_G_serveOrders_28 : decode jb_G_serveOrders 28 = .ok (.getfield 253, 3) := by decide +kernel
theorem jd_G_serveOrders_31 : decode jb_G_serveOrders 31 = .ok (.invokestatic 342, 3) := by decide +kernel
theorem jd_G_serveOrders_34 : decode jb_G_serveOrders 34 = .ok (.istore_n 2, 1) := by decide +kernel
theorem jd_G_serveOrders_35 : decode jb_G_serveOrders 35 = .ok (.iconst 0, 1) := by decide +kernel
theorem jd_G_serveOrders_36 : decode jb_G_serveOrders 36 = .ok (.istore_n 3, 1) := by decide +kernel
theorem jd_G_serveOrders_37 : decode jb_G_serveOrders 37 = .ok (.iload_n 3, 1) := by decide +kernel
theorem jd_G_serveOrders_38 : decode jb_G_serveOrders 38 = .ok (.iload_n 2, 1) := by decide +kernel
theorem jd_G_serveOrders_39 : decode jb_G_serveOrders 39 = .ok (.if_icmp .ge 111, 3) := by decide +kernel
theorem jd_G_serveOrders_42 : decode jb_G_serveOrders 42 = .ok (.aload_n 0, 1) := by decide +kernel
theorem jd_G_serveOrders_43 : decode jb_G_serveOrders 43 = .ok (.getfield 58, 3) := by decide +kernel
theorem jd_G_serveOrders_46 : decode jb_G_serveOrders 46 = .ok (.getfield 347, 3) := by decide +kernel
theorem jd_G_serveOrders_49 : decode jb_G_serveOrders 49 = .ok (.iconst 0, 1) := by decide +kernel
theorem jd_G_serveOrders_50 : decode jb_G_serveOrders 50 = .ok (.iaload, 1) := by decide +kernel
theorem jd_G_serveOrders_51 : decode jb_G_serveOrders 51 = .ok (.istore 4, 2) := by decide +kernel
theorem jd_G_serveOrders_53 : decode jb_G_serveOrders 53 = .ok (.aload_n 0, 1) := by decide +kernel
theorem jd_G_serveOrders_54 : decode jb_G_serveOrders 54 = .ok (.getfield 58, 3) := by decide +kernel
theorem jd_G_serveOrders_57 : decode jb_G_serveOrders 57 = .ok (.getfield 350, 3) := by decide +kernel
theorem jd_G_serveOrders_60 : decode jb_G_serveOrders 60 = .ok (.iconst 0, 1) := by decide +kernel
theorem jd_G_serveOrders_61 : decode jb_G_serveOrders 61 = .ok (.iaload, 1) := by decide +kernel
theorem jd_G_serveOrders_62 : decode jb_G_serveOrders 62 = .ok (.istore 5, 2) := by decide +kernel
theorem jd_G_serveOrders_64 : decode jb_G_serveOrders 64 = .ok (.aload_n 0, 1) := by decide +kernel
theorem jd_G_serveOrders_65 : decode jb_G_serveOrders 65 = .ok (.getfield 58, 3) := by decide +kernel
theorem jd_G_serveOrders_68 : decode jb_G_serveOrders 68 = .ok (.invokevirtual 353, 3) := by decide +kernel
theorem jd_G_serveOrders_71 : decode jb_G_serveOrders 71 = .ok (.ifCond .eq 73, 3) := by decide +kernel
theorem jd_G_serveOrders_74 : decode jb_G_serveOrders 74 = .ok (.aload_n 0, 1) := by decide +kernel
theorem jd_G_serveOrders_75 : decode jb_G_serveOrders 75 = .ok (.getfield 30, 3) := by decide +kernel
theorem jd_G_serveOrders_78 : decode jb_G_serveOrders 78 = .ok (.iload 4, 2) := by decide +kernel
theorem jd_G_serveOrders_80 : decode jb_G_serveOrders 80 = .ok (.invokevirtual 147, 3) := by decide +kernel
theorem jd_G_serveOrders_83 : decode jb_G_serveOrders 83 = .ok (.ifCond .eq 61, 3) := by decide +kernel
theorem jd_G_serveOrders_86 : decode jb_G_serveOrders 86 = .ok (.aload_n 0, 1) := by decide +kernel
theorem jd_G_serveOrders_87 : decode jb_G_serveOrders 87 = .ok (.getfield 30, 3) := by decide +kernel
theorem jd_G_serveOrders_90 : decode jb_G_serveOrders 90 = .ok (.getfield 148, 3) := by decide +kernel
theorem jd_G_serveOrders_93 : decode jb_G_serveOrders 93 = .ok (.iload 4, 2) := by decide +kernel
theorem jd_G_serveOrders_95 : decode jb_G_serveOrders 95 = .ok (.aaload, 1) := by decide +kernel
theorem jd_G_serveOrders_96 : decode jb_G_serveOrders 96 = .ok (.astore 6, 2) := by decide +kernel
theorem jd_G_serveOrders_98 : decode jb_G_serveOrders 98 = .ok (.aload_n 0, 1) := by decide +kernel
theorem jd_G_serveOrders_99 : decode jb_G_serveOrders 99 = .ok (.iload_n 1, 1) := by decide +kernel
theorem jd_G_serveOrders_100 : decode jb_G_serveOrders 100 = .ok (.aload 6, 2) := by decide +kernel
theorem jd_G_serveOrders_102 : decode jb_G_serveOrders 102 = .ok (.iload 5, 2) := by decide +kernel
theorem jd_G_serveOrders_104 : decode jb_G_serveOrders 104 = .ok (.invokevirtual 135, 3) := by decide +kernel
theorem jd_G_serveOrders_107 : decode jb_G_serveOrders 107 = .ok (.istore 7, 2) := by decide +kernel
theorem jd_G_serveOrders_109 : decode jb_G_serveOrders 109 = .ok (.aload 6, 2) := by decide +kernel
theorem jd_G_serveOrders_111 : decode jb_G_serveOrders 111 = .ok (.dup, 1) := by decide +kernel
theorem jd_G_serveOrders_112 : decode jb_G_serveOrders 112 = .ok (.getfield 356, 3) := by decide +kernel
theorem jd_G_serveOrders_115 : decode jb_G_serveOrders 115 = .ok (.iload 5, 2) := by decide +kernel
theorem jd_G_serveOrders_117 : decode jb_G_serveOrders 117 = .ok (.iadd, 1) := by decide +kernel
theorem jd_G_serveOrders_118 : decode jb_G_serveOrders 118 = .ok (.putfield 356, 3) := by decide +kernel
theorem jd_G_serveOrders_121 : decode jb_G_serveOrders 121 = .ok (.aload 6, 2) := by decide +kernel
theorem jd_G_serveOrders_123 : decode jb_G_serveOrders 123 = .ok (.dup, 1) := by decide +kernel
theorem jd_G_serveOrders_124 : decode jb_G_serveOrders 124 = .ok (.getfield 139, 3) := by decide +kernel
theorem jd_G_serveOrders_127 : decode jb_G_serveOrders 127 = .ok (.iload 7, 2) := by decide +kernel
theorem jd_G_serveOrders_129 : decode jb_G_serveOrders 129 = .ok (.iadd, 1) := by decide +kernel
theorem jd_G_serveOrders_130 : decode jb_G_serveOrders 130 = .ok (.putfield 139, 3) := by decide +kernel
theorem jd_G_serveOrders_133 : decode jb_G_serveOrders 133 = .ok (.aload_n 0, 1) := by decide +kernel
theorem jd_G_serveOrders_134 : decode jb_G_serveOrders 134 = .ok (.dup, 1) := by decide +kernel
theorem jd_G_serveOrders_135 : decode jb_G_serveOrders 135 = .ok (.getfield 89, 3) := by decide +kernel
theorem jd_G_serveOrders_138 : decode jb_G_serveOrders 138 = .ok (.iload 7, 2) := by decide +kernel
theorem jd_G_serveOrders_140 : decode jb_G_serveOrders 140 = .ok (.iadd, 1) := by decide +kernel
theorem jd_G_serveOrders_141 : decode jb_G_serveOrders 141 = .ok (.putfield 89, 3) := by decide +kernel
theorem jd_G_serveOrders_144 : decode jb_G_serveOrders 144 = .ok (.iinc 3 1, 3) := by decide +kernel
theorem jd_G_serveOrders_147 : decode jb_G_serveOrders 147 = .ok (.goto (-110), 3) := by decide +kernel
theorem jd_G_serveOrders_150 : decode jb_G_serveOrders 150 = .ok (.return_, 1) := by decide +kernel
def f_G_serveOrders_144 (F : Nat) (kb37 : Int32 → Int32 → Int32 → j_M → Option (Int32 × j_M)) (x1 : Int32) (x2 : Int32) (x3 : Int32) (I : j_M) : Option (Int32 × j_M) := j_let (x3 + 1) (fun v1 => kb37 x1 x2 v1 I)
def f_G_serveOrders_37b (F : Nat) (kb37 : Int32 → Int32 → Int32 → j_M → Option (Int32 × j_M)) (x1 : Int32) (x2 : Int32) (x3 : Int32) (I : j_M) : Option (Int32 × j_M) := (if x2 ≤ x3 then some (0, I) else (if j_ok 0 60 = true then j_let (I 199 (j_ix 0)) (fun v2 => (if j_ok 0 60 = true then j_let (I 200 (j_ix 0)) (fun v3 => j_bd (f_Ki_serveFirst F I) (fun v4 I5 => (if v4 = 0 then f_G_serveOrders_144 F kb37 x1 x2 x3 I5 else j_bd (f_Gu_has F v2 I5) (fun v6 I7 => (if v6 = 0 then f_G_serveOrders_144 F kb37 x1 x2 x3 I7 else (if j_ok v2 100 = true then j_bd (f_G_worth F x1 (j_ix v2) v3 I7) (fun v9 I10 => j_let (j_wr I10 (43 + (j_ix v2)) 9 ((I10 (43 + (j_ix v2)) 9) + v3)) (fun I11 => j_let (j_wr I11 (43 + (j_ix v2)) 7 ((I11 (43 + (j_ix v2)) 7) + v9)) (fun I12 => j_let (j_wr I12 0 14 ((I12 0 14) + v9)) (fun I13 => f_G_serveOrders_144 F kb37 x1 x2 x3 I13)))) else none)))))) else none)) else none))
def f_G_serveOrders_37 (F : Nat)  (x1 : Int32) (x2 : Int32) (x3 : Int32) (I : j_M) : Option (Int32 × j_M) := j_it (fun (again : Int32 × Int32 × Int32 × j_M → Option (Int32 × j_M)) (q : Int32 × Int32 × Int32 × j_M) => f_G_serveOrders_37b F  (fun x1 x2 x3 I => again (x1, x2, x3, I))  q.1 q.2.1 q.2.2.1 q.2.2.2) F (x1, x2, x3, I)
def f_G_serveOrders (F : Nat)  (I : j_M) : Option (Int32 × j_M) := j_bd (f_Pr_latest F 1 (I 0 10) (I 0 10) I) (fun v14 I15 => j_let (if (I15 198 4) < (I15 198 2) then (I15 198 4) else (I15 198 2)) (fun v16 => f_G_serveOrders_37 F v14 v16 0 I15))
set_option maxRecDepth 100000 in
set_option maxHeartbeats 4000000 in
theorem k_G_serveOrders_144 {p : Program} {l : Launch} {e : Env} {R : Room} {s : State} {m : MethodId} {args : Array Value} {below : List Frame} {meth : Method} {c : Code} {g : j_G} {b n : Nat} {P : j_R} {F : Nat} (hF : j_Fx 0 260 P) (hn : 260 ≤ n) (X : j_X p R s m args meth c g b 69 jb_G_serveOrders 8 "PleasureGarden" none) {kb37 : Int32 → Int32 → Int32 → j_M → Option (Int32 × j_M)} (hkb37 : ∀ (x1 : Int32) (x2 : Int32) (x3 : Int32) (I : j_M) (r : Int32 × j_M), kb37 x1 x2 x3 I = some r → j_W p l e R s m args below meth c 8 g b n 0 0 (j_Qv g b n P below args s r) I P 37 [some (.ref (b + 0)), some (.int x1), some (.int x2), some (.int x3), none, none, none, none] []) {x1 : Int32} {x2 : Int32} {x3 : Int32} {I : j_M} {r : Int32 × j_M}  (h : f_G_serveOrders_144 F kb37 x1 x2 x3 I = some r) : j_W p l e R s m args below meth c 8 g b n 0 0 (j_Qv g b n P below args s r) I P 144 [some (.ref (b + 0)), some (.int x1), some (.int x2), some (.int x3), none, none, none, none] [] := by
  unfold f_G_serveOrders_144 at h
  obtain ⟨v1, ev1, h⟩ := j_ex h
  refine j_iinc (v := v1) (lv' := [some (.ref (b + 0)), some (.int x1), some (.int x2), some (.int v1), none, none, none, none]) X jd_G_serveOrders_144 rfl (by rw [ev1]; rfl) (by decide) rfl ?_
  refine j_goto (tgt := 37) X jd_G_serveOrders_147 rfl ?_
  exact hkb37 _ _ _ _ _ h
set_option maxRecDepth 100000 in
set_option maxHeartbeats 4000000 in
theorem k_G_serveOrders_37b {p : Program} {l : Launch} {e : Env} {R : Room} {s : State} {m : MethodId} {args : Array Value} {below : List Frame} {meth : Method} {c : Code} {g : j_G} {b n : Nat} {P : j_R} {F : Nat} (hF : j_Fx 0 260 P) (hn : 260 ≤ n) (X : j_X p R s m args meth c g b 69 jb_G_serveOrders 8 "PleasureGarden" none) {kb37 : Int32 → Int32 → Int32 → j_M → Option (Int32 × j_M)} (hkb37 : ∀ (x1 : Int32) (x2 : Int32) (x3 : Int32) (I : j_M) (r : Int32 × j_M), kb37 x1 x2 x3 I = some r → j_W p l e R s m args below meth c 8 g b n 0 0 (j_Qv g b n P below args s r) I P 37 [some (.ref (b + 0)), some (.int x1), some (.int x2), some (.int x3), none, none, none, none] []) {x1 : Int32} {x2 : Int32} {x3 : Int32} {I : j_M} {r : Int32 × j_M}  (h : f_G_serveOrders_37b F kb37 x1 x2 x3 I = some r) : j_W p l e R s m args below meth c 8 g b n 0 0 (j_Qv g b n P below args s r) I P 37 [some (.ref (b + 0)), some (.int x1), some (.int x2), some (.int x3), none, none, none, none] [] := by
  unfold f_G_serveOrders_37b at h
  refine j_iload_n X jd_G_serveOrders_37 rfl rfl ?_
  refine j_iload_n X jd_G_serveOrders_38 rfl rfl ?_
  refine j_icmp_ge (tgt := 150) X jd_G_serveOrders_39 rfl h (fun h => ?_) (fun h => ?_)
  · exact j_vret X rfl jd_G_serveOrders_150 h
  · refine j_aload_n X jd_G_serveOrders_42 rfl rfl ?_
    refine j_getr X jf_G_58 jk_0_7 js_0 (j_lt rfl hn) (jp_0_7 hF) jd_G_serveOrders_43 ?_
    refine j_getr X jf_G_347 jk_8_5 js_198 (j_lt rfl hn) (jp_198_5 hF) jd_G_serveOrders_46 ?_
    refine j_iconst (v := 0) X jd_G_serveOrders_49 (by decide) ?_
    refine j_iald X js_199 (j_lt rfl hn) jd_G_serveOrders_50 h (fun _ h => ?_)
    refine j_nm h (fun v2 h => ?_)
    refine j_istore (lv' := [some (.ref (b + 0)), some (.int x1), some (.int x2), some (.int x3), some (.int v2), none, none, none]) X jd_G_serveOrders_51 (by decide) rfl ?_
    refine j_aload_n X jd_G_serveOrders_53 rfl rfl ?_
    refine j_getr X jf_G_58 jk_0_7 js_0 (j_lt rfl hn) (jp_0_7 hF) jd_G_serveOrders_54 ?_
    refine j_getr X jf_G_350 jk_8_6 js_198 (j_lt rfl hn) (jp_198_6 hF) jd_G_serveOrders_57 ?_
    refine j_iconst (v := 0) X jd_G_serveOrders_60 (by decide) ?_
    refine j_iald X js_200 (j_lt rfl hn) jd_G_serveOrders_61 h (fun _ h => ?_)
    refine j_nm h (fun v3 h => ?_)
    refine j_istore (lv' := [some (.ref (b + 0)), some (.int x1), some (.int x2), some (.int x3), some (.int v2), some (.int v3), none, none]) X jd_G_serveOrders_62 (by decide) rfl ?_
    refine j_aload_n X jd_G_serveOrders_64 rfl rfl ?_
    refine j_getr X jf_G_58 jk_0_7 js_0 (j_lt rfl hn) (jp_0_7 hF) jd_G_serveOrders_65 ?_
    refine j_callVi (As := []) (st := []) (c0 := 198) X h jc_Ki js_198 (j_lt rfl hn) ⟨jqc_Ki_serveFirst, jqi_Ki_serveFirst, jqv_Ki_serveFirst, jqn_Ki⟩ jlm_G_353 jh_Ki_serveFirst rfl (by decide) (by decide) (Nat.le_of_ble_eq_true rfl) ⟨Nat.zero_le _, Nat.zero_le _⟩ (fun v0 I0 h => k_Ki_serveFirst (r := (v0, I0)) hF hn h) jd_G_serveOrders_68 rfl (fun v4 I5 h => ?_)
    refine j_if_eq (tgt := 144) X jd_G_serveOrders_71 rfl h (fun h => ?_) (fun h => ?_)
    · refine j_sub [true, true, true, true, false, false, false, false] (lv' := [some (.ref (b + 0)), some (.int x1), some (.int x2), some (.int x3), none, none, none, none]) rfl ?_
      exact k_G_serveOrders_144 hF hn X hkb37 h
    · refine j_aload_n X jd_G_serveOrders_74 rfl rfl ?_
      refine j_getr X jf_G_30 jk_0_3 js_0 (j_lt rfl hn) (jp_0_3 hF) jd_G_serveOrders_75 ?_
      refine j_iload X jd_G_serveOrders_78 rfl ?_
      refine j_callVi (As := [.int v2]) (st := []) (c0 := 41) X h jc_Gu js_41 (j_lt rfl hn) ⟨jqc_Gu_has, jqi_Gu_has, jqv_Gu_has, jqn_Gu⟩ jlm_G_147 jh_Gu_has rfl (by decide) (by decide) (Nat.le_of_ble_eq_true rfl) ⟨Nat.zero_le _, Nat.zero_le _⟩ (fun v0 I0 h => k_Gu_has (r := (v0, I0)) hF hn h) jd_G_serveOrders_80 rfl (fun v6 I7 h => ?_)
      refine j_if_eq (tgt := 144) X jd_G_serveOrders_83 rfl h (fun h => ?_) (fun h => ?_)
      · refine j_sub [true, true, true, true, false, false, false, false] (lv' := [some (.ref (b + 0)), some (.int x1), some (.int x2), some (.int x3), none, none, none, none]) rfl ?_
        exact k_G_serveOrders_144 hF hn X hkb37 h
      · refine j_aload_n X jd_G_serveOrders_86 rfl rfl ?_
        refine j_getr X jf_G_30 jk_0_3 js_0 (j_lt rfl hn) (jp_0_3 hF) jd_G_serveOrders_87 ?_
        refine j_getr X jf_G_148 jk_3_1 js_41 (j_lt rfl hn) (jp_41_1 hF) jd_G_serveOrders_90 ?_
        refine j_iload X jd_G_serveOrders_93 rfl ?_
        refine j_aald X rfl rfl js_42 (j_lt rfl hn) jd_G_serveOrders_95 (fun q => ja_42 hF _ (j_ok_lt q)) h (fun hb8 h => ?_)
        refine j_astore (lv' := [some (.ref (b + 0)), some (.int x1), some (.int x2), some (.int x3), some (.int v2), some (.int v3), some (.ref (b + (43 + (j_ix v2)))), none]) X jd_G_serveOrders_96 (by decide) rfl ?_
        refine j_aload_n X jd_G_serveOrders_98 rfl rfl ?_
        refine j_iload_n X jd_G_serveOrders_99 rfl rfl ?_
        refine j_aload X jd_G_serveOrders_100 rfl ?_
        refine j_iload X jd_G_serveOrders_102 rfl ?_
        refine j_callVi (As := [.int x1, .ref (b + (43 + (j_ix v2))), .int v3]) (st := []) (c0 := 0) X h jc_G js_0 (j_lt rfl hn) ⟨jqc_G_worth, jqi_G_worth, jqv_G_worth, jqn_G⟩ jlm_G_135 jh_G_worth rfl (by decide) (by decide) (Nat.le_of_ble_eq_true rfl) ⟨Nat.zero_le _, Nat.zero_le _⟩ (fun v0 I0 h => k_G_worth (r := (v0, I0)) hF hn (j_ok_lt hb8) h) jd_G_serveOrders_104 rfl (fun v9 I10 h => ?_)
        refine j_istore (lv' := [some (.ref (b + 0)), some (.int x1), some (.int x2), some (.int x3), some (.int v2), some (.int v3), some (.ref (b + (43 + (j_ix v2)))), some (.int v9)]) X jd_G_serveOrders_107 (by decide) rfl ?_
        refine j_aload X jd_G_serveOrders_109 rfl ?_
        refine j_dup X jd_G_serveOrders_111 rfl ?_
        refine j_get X jf_G_356 jk_4_9 (jsp_43 (j_ok_lt hb8)) (j_ltq (j_ok_lt hb8) rfl hn) jd_G_serveOrders_112 ?_
        refine j_iload X jd_G_serveOrders_115 rfl ?_
        refine j_iadd X jd_G_serveOrders_117 ?_
        refine j_puti X jt_Pa jto_Pa jn_Pa jf_G_356 jk_4_9 (jsp_43 (j_ok_lt hb8)) (j_ltq (j_ok_lt hb8) rfl hn) (Or.inl rfl) rfl jd_G_serveOrders_118 ?_
        refine j_mem h (fun I11 h => ?_)
        refine j_aload X jd_G_serveOrders_121 rfl ?_
        refine j_dup X jd_G_serveOrders_123 rfl ?_
        refine j_get X jf_G_139 jk_4_7 (jsp_43 (j_ok_lt hb8)) (j_ltq (j_ok_lt hb8) rfl hn) jd_G_serveOrders_124 ?_
        refine j_iload X jd_G_serveOrders_127 rfl ?_
        refine j_iadd X jd_G_serveOrders_129 ?_
        refine j_puti X jt_Pa jto_Pa jn_Pa jf_G_139 jk_4_7 (jsp_43 (j_ok_lt hb8)) (j_ltq (j_ok_lt hb8) rfl hn) (Or.inl rfl) rfl jd_G_serveOrders_130 ?_
        refine j_mem h (fun I12 h => ?_)
        refine j_aload_n X jd_G_serveOrders_133 rfl rfl ?_
        refine j_dup X jd_G_serveOrders_134 rfl ?_
        refine j_get X jf_G_89 jk_0_14 js_0 (j_lt rfl hn) jd_G_serveOrders_135 ?_
        refine j_iload X jd_G_serveOrders_138 rfl ?_
        refine j_iadd X jd_G_serveOrders_140 ?_
        refine j_puti X jt_G jto_G jn_G jf_G_89 jk_0_14 js_0 (j_lt rfl hn) (Or.inl rfl) rfl jd_G_serveOrders_141 ?_
        refine j_mem h (fun I13 h => ?_)
        refine j_sub [true, true, true, true, false, false, false, false] (lv' := [some (.ref (b + 0)), some (.int x1), some (.int x2), some (.int x3), none, none, none, none]) rfl ?_
        exact k_G_serveOrders_144 hF hn X hkb37 h
set_option maxRecDepth 100000 in
set_option maxHeartbeats 4000000 in
theorem k_G_serveOrders_37 {p : Program} {l : Launch} {e : Env} {R : Room} {s : State} {m : MethodId} {args : Array Value} {below : List Frame} {meth : Method} {c : Code} {g : j_G} {b n : Nat} {P : j_R} {F : Nat} (hF : j_Fx 0 260 P) (hn : 260 ≤ n) (X : j_X p R s m args meth c g b 69 jb_G_serveOrders 8 "PleasureGarden" none)  {x1 : Int32} {x2 : Int32} {x3 : Int32} {I : j_M} {r : Int32 × j_M} (h : f_G_serveOrders_37 F x1 x2 x3 I = some r) : j_W p l e R s m args below meth c 8 g b n 0 0 (j_Qv g b n P below args s r) I P 37 [some (.ref (b + 0)), some (.int x1), some (.int x2), some (.int x3), none, none, none, none] [] := by
  refine j_loop (G := fun (q : Int32 × Int32 × Int32 × j_M) (r : Int32 × j_M) => j_W p l e R s m args below meth c 8 g b n 0 0 (j_Qv g b n P below args s r) q.2.2.2 P 37 [some (.ref (b + 0)), some (.int (q.1)), some (.int (q.2.1)), some (.int (q.2.2.1)), none, none, none, none] []) ?_ F (x1, x2, x3, I) r h
  intro again hrec0 q r h
  exact k_G_serveOrders_37b hF hn X (fun x1 x2 x3 I r h => hrec0 (x1, x2, x3, I) r h)  h
set_option maxRecDepth 100000 in
set_option maxHeartbeats 4000000 in
theorem k_G_serveOrders {l : Launch} {g : j_G} {b n : Nat} {P : j_R} {F : Nat} (hF : j_Fx 0 260 P) (hn : 260 ≤ n)  {I : j_M} {r : Int32 × j_M}  (h : f_G_serveOrders F I = some r) : j_Met l g b n P 69 jy_G_serveOrders jb_G_serveOrders 8 none [.ref (b + 0)] I r.2 none := by
  unfold f_G_serveOrders at h
  refine j_enter (plainFor_of_name (by decide)) (Nat.le_of_ble_eq_true rfl) [some (.ref (b + 0)), none, none, none, none, none, none, none] rfl ?_
  intro p e R s m args below meth c X0 hnm hRc hRs
  have X : j_X p R s m args meth c g b 69 jb_G_serveOrders 8 "PleasureGarden" none := X0
  clear X0
  refine j_aload_n X jd_G_serveOrders_0 rfl rfl ?_
  refine j_getr X jf_G_65 jk_0_8 js_0 (j_lt rfl hn) (jp_0_8 hF) jd_G_serveOrders_1 ?_
  refine j_iconst (v := 1) X jd_G_serveOrders_4 (by decide) ?_
  refine j_aload_n X jd_G_serveOrders_5 rfl rfl ?_
  refine j_get X jf_G_76 jk_0_10 js_0 (j_lt rfl hn) jd_G_serveOrders_6 ?_
  refine j_aload_n X jd_G_serveOrders_9 rfl rfl ?_
  refine j_get X jf_G_76 jk_0_10 js_0 (j_lt rfl hn) jd_G_serveOrders_10 ?_
  refine j_callVi (As := [.int 1, .int (I 0 10), .int (I 0 10)]) (st := []) (c0 := 202) X h jc_Pr js_202 (j_lt rfl hn) ⟨jqc_Pr_latest, jqi_Pr_latest, jqv_Pr_latest, jqn_Pr⟩ jlm_G_132 jh_Pr_latest rfl (by decide) (by decide) (Nat.le_of_ble_eq_true rfl) ⟨Nat.zero_le _, Nat.zero_le _⟩ (fun v0 I0 h => k_Pr_latest (r := (v0, I0)) hF hn h) jd_G_serveOrders_13 rfl (fun v14 I15 h => ?_)
  refine j_istore_n (lv' := [some (.ref (b + 0)), some (.int v14), none, none, none, none, none, none]) X jd_G_serveOrders_16 rfl (by decide) rfl ?_
  refine j_aload_n X jd_G_serveOrders_17 rfl rfl ?_
  refine j_getr X jf_G_58 jk_0_7 js_0 (j_lt rfl hn) (jp_0_7 hF) jd_G_serveOrders_18 ?_
  refine j_get X jf_G_250 jk_8_2 js_198 (j_lt rfl hn) jd_G_serveOrders_21 ?_
  refine j_aload_n X jd_G_serveOrders_24 rfl rfl ?_
  refine j_getr X jf_G_58 jk_0_7 js_0 (j_lt rfl hn) (jp_0_7 hF) jd_G_serveOrders_25 ?_
  refine j_get X jf_G_253 jk_8_4 js_198 (j_lt rfl hn) jd_G_serveOrders_28 ?_
  refine j_mmin (st := []) X jlm_G_342 (by decide) (Nat.le_of_ble_eq_true rfl) ⟨Nat.zero_le _, Nat.zero_le _⟩ jd_G_serveOrders_31 ?_
  refine j_nm h (fun v16 h => ?_)
  refine j_istore_n (lv' := [some (.ref (b + 0)), some (.int v14), some (.int v16), none, none, none, none, none]) X jd_G_serveOrders_34 rfl (by decide) rfl ?_
  refine j_iconst (v := 0) X jd_G_serveOrders_35 (by decide) ?_
  refine j_istore_n (lv' := [some (.ref (b + 0)), some (.int v14), some (.int v16), some (.int 0), none, none, none, none]) X jd_G_serveOrders_36 rfl (by decide) rfl ?_
  exact k_G_serveOrders_37 hF hn X h
-- PleasureGarden.leave(I)I
theorem jd_G_leave_0 : decode jb_G_leave 0 = .ok (.aload_n 0, 1) := by decide +kernel
theorem jd_G_leave_1 : decode jb_G_leave 1 = .ok (.getfield 30, 3) := by decide +kernel
theorem jd_G_leave_4 : decode jb_G_leave 4 = .ok (.iload_n 1, 1) := by decide +kernel
theorem jd_G_leave_5 : decode jb_G_leave 5 = .ok (.invokevirtual 147, 3) := by decide +kernel
theorem jd_G_leave_8 : decode jb_G_leave 8 = .ok (.ifCond .ne 5, 3) := by decide +kernel
theorem jd_G_leave_11 : decode jb_G_leave 11 = .ok (.iconst (-1), 1) := by decide +kernel
theorem jd_G_leave_12 : decode jb_G_leave 12 = .ok (.ireturn, 1) := by decide +kernel
theorem jd_G_leave_13 : decode jb_G_leave 13 = .ok (.aload_n 0, 1) := by decide +kernel
theorem jd_G_leave_14 : decode jb_G_leave 14 = .ok (.getfield 30, 3) := by decide +kernel
theorem jd_G_leave_17 : decode jb_G_leave 17 = .ok (.getfield 148, 3) := by decide +kernel
theorem jd_G_leave_20 : decode jb_G_leave 20 = .ok (.iload_n 1, 1) := by decide +kernel
theorem jd_G_leave_21 : decode jb_G_leave 21 = .ok (.aaload, 1) := by decide +kernel
theorem jd_G_leave_22 : decode jb_G_leave 22 = .ok (.astore_n 2, 1) := by decide +kernel
theorem jd_G_leave_23 : decode jb_G_leave 23 = .ok (.aload_n 2, 1) := by decide +kernel
theorem jd_G_leave_24 : decode jb_G_leave 24 = .ok (.getfield 152, 3) := by decide +kernel
theorem jd_G_leave_27 : decode jb_G_leave 27 = .ok (.ifCond .ne 10, 3) := by decide +kernel
theorem jd_G_leave_30 : decode jb_G_leave 30 = .ok (.aload_n 2, 1) := by decide +kernel
theorem jd_G_leave_31 : decode jb_G_leave 31 = .ok (.getfield 155, 3) := by decide +kernel
theorem jd_G_leave_34 : decode jb_G_leave 34 = .ok (.ifCond .eq 6, 3) := by decide +kernel
theorem jd_G_leave_37 : decode jb_G_leave 37 = .ok (.bipush (-2), 2) := by decide +kernel
theorem jd_G_leave_39 : decode jb_G_leave 39 = .ok (.ireturn, 1) := by decide +kernel
theorem jd_G_leave_40 : decode jb_G_leave 40 = .ok (.aload_n 0, 1) := by decide +kernel
theorem jd_G_leave_41 : decode jb_G_leave 41 = .ok (.aload_n 2, 1) := by decide +kernel
theorem jd_G_leave_42 : decode jb_G_leave 42 = .ok (.invokevirtual 162, 3) := by decide +kernel
theorem jd_G_leave_45 : decode jb_G_leave 45 = .ok (.ireturn, 1) := by decide +kernel
def f_G_leave (F : Nat) (x1 : Int32) (I : j_M) : Option (Int32 × j_M) := j_bd (f_Gu_has F x1 I) (fun v1 I2 => (if v1 = 0 then some ((-1), I2) else (if j_ok x1 100 = true then (if (I2 (43 + (j_ix x1)) 3) = 0 then (if (I2 (43 + (j_ix x1)) 4) = 0 then j_bd (f_G_showOut F (j_ix x1) I2) (fun v4 I5 => some (v4, I5)) else some ((-2), I2)) else some ((-2), I2)) else none)))
set_option maxRecDepth 100000 in
set_option maxHeartbeats 4000000 in
theorem k_G_leave {l : Launch} {g : j_G} {b n : Nat} {P : j_R} {F : Nat} (hF : j_Fx 0 260 P) (hn : 260 ≤ n) {x1 : Int32} {I : j_M} {r : Int32 × j_M}  (h : f_G_leave F x1 I = some r) : j_Met l g b n P 70 jy_G_leave jb_G_leave 3 (some .int) [.ref (b + 0), .int x1] I r.2 (some (.int r.1)) := by
  unfold f_G_leave at h
  refine j_enter (plainFor_of_name (by decide)) (Nat.le_of_ble_eq_true rfl) [some (.ref (b + 0)), some (.int x1), none] rfl ?_
  intro p e R s m args below meth c X0 hnm hRc hRs
  have X : j_X p R s m args meth c g b 70 jb_G_leave 3 "PleasureGarden" (some .int) := X0
  clear X0
  refine j_aload_n X jd_G_leave_0 rfl rfl ?_
  refine j_getr X jf_G_30 jk_0_3 js_0 (j_lt rfl hn) (jp_0_3 hF) jd_G_leave_1 ?_
  refine j_iload_n X jd_G_leave_4 rfl rfl ?_
  refine j_callVi (As := [.int x1]) (st := []) (c0 := 41) X h jc_Gu js_41 (j_lt rfl hn) ⟨jqc_Gu_has, jqi_Gu_has, jqv_Gu_has, jqn_Gu⟩ jlm_G_147 jh_Gu_has rfl (by decide) (by decide) (Nat.le_of_ble_eq_true rfl) ⟨Nat.zero_le _, Nat.zero_le _⟩ (fun v0 I0 h => k_Gu_has (r := (v0, I0)) hF hn h) jd_G_leave_5 rfl (fun v1 I2 h => ?_)
  refine j_if_ne (tgt := 13) X jd_G_leave_8 rfl h (fun h => ?_) (fun h => ?_)
  · refine j_iconst (v := (-1)) X jd_G_leave_11 (by decide) ?_
    exact j_iret X rfl jd_G_leave_12 h
  · refine j_aload_n X jd_G_leave_13 rfl rfl ?_
    refine j_getr X jf_G_30 jk_0_3 js_0 (j_lt rfl hn) (jp_0_3 hF) jd_G_leave_14 ?_
    refine j_getr X jf_G_148 jk_3_1 js_41 (j_lt rfl hn) (jp_41_1 hF) jd_G_leave_17 ?_
    refine j_iload_n X jd_G_leave_20 rfl rfl ?_
    refine j_aald X rfl rfl js_42 (j_lt rfl hn) jd_G_leave_21 (fun q => ja_42 hF _ (j_ok_lt q)) h (fun hb3 h => ?_)
    refine j_astore_n (lv' := [some (.ref (b + 0)), some (.int x1), some (.ref (b + (43 + (j_ix x1))))]) X jd_G_leave_22 rfl (by decide) rfl ?_
    refine j_aload_n X jd_G_leave_23 rfl rfl ?_
    refine j_get X jf_G_152 jk_4_3 (jsp_43 (j_ok_lt hb3)) (j_ltq (j_ok_lt hb3) rfl hn) jd_G_leave_24 ?_
    refine j_if_ne (tgt := 37) X jd_G_leave_27 rfl h (fun h => ?_) (fun h => ?_)
    · refine j_aload_n X jd_G_leave_30 rfl rfl ?_
      refine j_get X jf_G_155 jk_4_4 (jsp_43 (j_ok_lt hb3)) (j_ltq (j_ok_lt hb3) rfl hn) jd_G_leave_31 ?_
      refine j_if_eq (tgt := 40) X jd_G_leave_34 rfl h (fun h => ?_) (fun h => ?_)
      · refine j_aload_n X jd_G_leave_40 rfl rfl ?_
        refine j_aload_n X jd_G_leave_41 rfl rfl ?_
        refine j_callVi (As := [.ref (b + (43 + (j_ix x1)))]) (st := []) (c0 := 0) X h jc_G js_0 (j_lt rfl hn) ⟨jqc_G_showOut, jqi_G_showOut, jqv_G_showOut, jqn_G⟩ jlm_G_162 jh_G_showOut rfl (by decide) (by decide) (Nat.le_of_ble_eq_true rfl) ⟨Nat.zero_le _, Nat.zero_le _⟩ (fun v0 I0 h => k_G_showOut (r := (v0, I0)) hF hn (j_ok_lt hb3) h) jd_G_leave_42 rfl (fun v4 I5 h => ?_)
        exact j_iret X rfl jd_G_leave_45 h
      · refine j_bipush (v := (-2)) X jd_G_leave_37 (by decide) ?_
        exact j_iret X rfl jd_G_leave_39 h
    · refine j_bipush (v := (-2)) X jd_G_leave_37 (by decide) ?_
      exact j_iret X rfl jd_G_leave_39 h
-- PleasureGarden.minutes(I)I
theorem jd_G_minutes_0 : decode jb_G_minutes 0 = .ok (.iload_n 1, 1) := by decide +kernel
theorem jd_G_minutes_1 : decode jb_G_minutes 1 = .ok (.iconst 1, 1) := by decide +kernel
theorem jd_G_minutes_2 : decode jb_G_minutes 2 = .ok (.bipush 60, 2) := by decide +kernel
theorem jd_G_minutes_4 : decode jb_G_minutes 4 = .ok (.invokestatic 92, 3) := by decide +kernel
theorem jd_G_minutes_7 : decode jb_G_minutes 7 = .ok (.ifCond .eq 15, 3) := by decide +kernel
theorem jd_G_minutes_10 : decode jb_G_minutes 10 = .ok (.aload_n 0, 1) := by decide +kernel
theorem jd_G_minutes_11 : decode jb_G_minutes 11 = .ok (.getfield 80, 3) := by decide +kernel
theorem jd_G_minutes_14 : decode jb_G_minutes 14 = .ok (.iload_n 1, 1) := by decide +kernel
theorem jd_G_minutes_15 : decode jb_G_minutes 15 = .ok (.iadd, 1) := by decide +kernel
theorem jd_G_minutes_16 : decode jb_G_minutes 16 = .ok (.sipush 480, 3) := by decide +kernel
theorem jd_G_minutes_19 : decode jb_G_minutes 19 = .ok (.if_icmp .lt 5, 3) := by decide +kernel
theorem jd_G_minutes_22 : decode jb_G_minutes 22 = .ok (.iconst (-1), 1) := by decide +kernel
theorem jd_G_minutes_23 : decode jb_G_minutes 23 = .ok (.ireturn, 1) := by decide +kernel
theorem jd_G_minutes_24 : decode jb_G_minutes 24 = .ok (.iconst 0, 1) := by decide +kernel
theorem jd_G_minutes_25 : decode jb_G_minutes 25 = .ok (.istore_n 2, 1) := by decide +kernel
theorem jd_G_minutes_26 : decode jb_G_minutes 26 = .ok (.iload_n 2, 1) := by decide +kernel
theorem jd_G_minutes_27 : decode jb_G_minutes 27 = .ok (.iload_n 1, 1) := by decide +kernel
theorem jd_G_minutes_28 : decode jb_G_minutes 28 = .ok (.if_icmp .ge 98, 3) := by decide +kernel
theorem jd_G_minutes_31 : decode jb_G_minutes 31 = .ok (.aload_n 0, 1) := by decide +kernel
theorem jd_G_minutes_32 : decode jb_G_minutes 32 = .ok (.getfield 19, 3) := by decide +kernel
theorem jd_G_minutes_35 : decode jb_G_minutes 35 = .ok (.aload_n 0, 1) := by decide +kernel
theorem jd_G_minutes_36 : decode jb_G_minutes 36 = .ok (.getfield 80, 3) := by decide +kernel
theorem jd_G_minutes_39 : decode jb_G_minutes 39 = .ok (.invokevirtual 173, 3) := by decide +kernel
theorem jd_G_minutes_42 : decode jb_G_minutes 42 = .ok (.istore_n 3, 1) := by decide +kernel
theorem jd_G_minutes_43 : decode jb_G_minutes 43 = .ok (.aload_n 0, 1) := by decide +kernel
theorem jd_G_minutes_44 : decode jb_G_minutes 44 = .ok (.dup, 1) := by decide +kernel
theorem jd_G_minutes_45 : decode jb_G_minutes 45 = .ok (.getfield 80, 3) := by decide +kernel
theorem jd_G_minutes_48 : decode jb_G_minutes 48 = .ok (.iconst 1, 1) := by decide +kernel
theorem jd_G_minutes_49 : decode jb_G_minutes 49 = .ok (.iadd, 1) := by decide +kernel
theorem jd_G_minutes_50 : decode jb_G_minutes 50 = .ok (.putfield 80, 3) := by decide +kernel
theorem jd_G_minutes_53 : decode jb_G_minutes 53 = .ok (.aload_n 0, 1) := by decide +kernel
theorem jd_G_minutes_54 : decode jb_G_minutes 54 = .ok (.getfield 37, 3) := by decide +kernel
theorem jd_G_minutes_57 : decode jb_G_minutes 57 = .ok (.aload_n 0, 1) := by decide +kernel
theorem jd_G_minutes_58 : decode jb_G_minutes 58 = .ok (.getfield 80, 3) := by decide +kernel
theorem jd_G_minutes_61 : decode jb_G_minutes 61 = .ok (.putfield 176, 3) := by decide +kernel
theorem jd_G_minutes_64 : decode jb_G_minutes 64 = .ok (.aload_n 0, 1) := by decide +kernel
theorem jd_G_minutes_65 : decode jb_G_minutes 65 = .ok (.invokevirtual 179, 3) := by decide +kernel
theorem jd_G_minutes_68 : decode jb_G_minutes 68 = .ok (.iload_n 3, 1) := by decide +kernel
theorem jd_G_minutes_69 : decode jb_G_minutes 69 = .ok (.ifCond .ne 21, 3) := by decide +kernel
theorem jd_G_minutes_72 : decode jb_G_minutes 72 = .ok (.aload_n 0, 1) := by decide +kernel
theorem jd_G_minutes_73 : decode jb_G_minutes 73 = .ok (.getfield 19, 3) := by decide +kernel
theorem jd_G_minutes_76 : decode jb_G_minutes 76 = .ok (.aload_n 0, 1) := by decide +kernel
theorem jd_G_minutes_77 : decode jb_G_minutes 77 = .ok (.getfield 80, 3) := by decide +kernel
theorem jd_G_minutes_80 : decode jb_G_minutes 80 = .ok (.invokevirtual 173, 3) := by decide +kernel
theorem jd_G_minutes_83 : decode jb_G_minutes 83 = .ok (.ifCond .eq 7, 3) := by decide +kernel
theorem jd_G_minutes_86 : decode jb_G_minutes 86 = .ok (.aload_n 0, 1) := by decide +kernel
theorem jd_G_minutes_87 : decode jb_G_minutes 87 = .ok (.invokevirtual 182, 3) := by decide +kernel
theorem jd_G_minutes_90 : decode jb_G_minutes 90 = .ok (.aload_n 0, 1) := by decide +kernel
theorem jd_G_minutes_91 : decode jb_G_minutes 91 = .ok (.invokevirtual 185, 3) := by decide +kernel
theorem jd_G_minutes_94 : decode jb_G_minutes 94 = .ok (.aload_n 0, 1) := by decide +kernel
theorem jd_G_minutes_95 : decode jb_G_minutes 95 = .ok (.dup, 1) := by decide +kernel
theorem jd_G_minutes_96 : decode jb_G_minutes 96 = .ok (.getfield 86, 3) := by decide +kernel
theorem jd_G_minutes_99 : decode jb_G_minutes 99 = .ok (.aload_n 0, 1) := by decide +kernel
theorem jd_G_minutes_100 : decode jb_G_minutes 100 = .ok (.invokevirtual 188, 3) := by decide +kernel
theorem jd_G_minutes_103 : decode jb_G_minutes 103 = .ok (.iadd, 1) := by decide +kernel
theorem jd_G_minutes_104 : decode jb_G_minutes 104 = .ok (.putfield 86, 3) := by decide +kernel
theorem jd_G_minutes_107 : decode jb_G_minutes 107 = .ok (.aload_n 0, 1) := by decide +kernel
theorem jd_G_minutes_108 : decode jb_G_minutes 108 = .ok (.getfield 37, 3) := by decide +kernel
theorem jd_G_minutes_111 : decode jb_G_minutes 111 = .ok (.aload_n 0, 1) := by decide +kernel
theorem jd_G_minutes_112 : decode jb_G_minutes 112 = .ok (.getfield 80, 3) := by decide +kernel
theorem jd_G_minutes_115 : decode jb_G_minutes 115 = .ok (.iconst 1, 1) := by decide +kernel
theorem jd_G_minutes_116 : decode jb_G_minutes 116 = .ok (.iadd, 1) := by decide +kernel
theorem jd_G_minutes_117 : decode jb_G_minutes 117 = .ok (.putfield 176, 3) := by decide +kernel
theorem jd_G_minutes_120 : decode jb_G_minutes 120 = .ok (.iinc 2 1, 3) := by decide +kernel
theorem jd_G_minutes_123 : decode jb_G_minutes 123 = .ok (.goto (-97), 3) := by decide +kernel
theorem jd_G_minutes_126 : decode jb_G_minutes 126 = .ok (.aload_n 0, 1) := by decide +kernel
theorem jd_G_minutes_127 : decode jb_G_minutes 127 = .ok (.getfield 80, 3) := by decide +kernel
theorem jd_G_minutes_130 : decode jb_G_minutes 130 = .ok (.ireturn, 1) := by decide +kernel
def f_G_minutes_90 (F : Nat) (kb26 : Int32 → Int32 → j_M → Option (Int32 × j_M)) (x1 : Int32) (x2 : Int32) (I : j_M) : Option (Int32 × j_M) := j_bd (f_G_serveOrders F I) (fun v1 I2 => j_bd (f_G_overcrowding F I2) (fun v3 I4 => j_let (j_wr I4 0 13 ((I2 0 13) + v3)) (fun I5 => j_let (j_wr I5 143 0 ((I5 0 11) + 1)) (fun I6 => j_let (x2 + 1) (fun v7 => kb26 x1 v7 I6)))))
def f_G_minutes_26b (F : Nat) (kb26 : Int32 → Int32 → j_M → Option (Int32 × j_M)) (x1 : Int32) (x2 : Int32) (I : j_M) : Option (Int32 × j_M) := (if x1 ≤ x2 then some (I 0 11, I) else j_bd (f_Sk_rains F (I 0 11) I) (fun v8 I9 => j_let (j_wr I9 0 11 ((I9 0 11) + 1)) (fun I10 => j_let (j_wr I10 143 0 (I10 0 11)) (fun I11 => j_bd (f_G_seatArrivals F I11) (fun v12 I13 => (if v8 = 0 then j_bd (f_Sk_rains F (I13 0 11) I13) (fun v14 I15 => (if v14 = 0 then f_G_minutes_90 F kb26 x1 x2 I15 else j_bd (f_G_seekShelter F I15) (fun v16 I17 => f_G_minutes_90 F kb26 x1 x2 I17))) else f_G_minutes_90 F kb26 x1 x2 I13))))))
def f_G_minutes_26 (F : Nat)  (x1 : Int32) (x2 : Int32) (I : j_M) : Option (Int32 × j_M) := j_it (fun (again : Int32 × Int32 × j_M → Option (Int32 × j_M)) (q : Int32 × Int32 × j_M) => f_G_minutes_26b F  (fun x1 x2 I => again (x1, x2, I))  q.1 q.2.1 q.2.2) F (x1, x2, I)
def f_G_minutes (F : Nat) (x1 : Int32) (I : j_M) : Option (Int32 × j_M) := j_bd (f_G_within F x1 1 60 I) (fun v18 I19 => (if v18 = 0 then some ((-1), I19) else (if ((I19 0 11) + x1) < 480 then f_G_minutes_26 F x1 0 I19 else some ((-1), I19))))
set_option maxRecDepth 100000 in
set_option maxHeartbeats 4000000 in
theorem k_G_minutes_90 {p : Program} {l : Launch} {e : Env} {R : Room} {s : State} {m : MethodId} {args : Array Value} {below : List Frame} {meth : Method} {c : Code} {g : j_G} {b n : Nat} {P : j_R} {F : Nat} (hF : j_Fx 0 260 P) (hn : 260 ≤ n) (X : j_X p R s m args meth c g b 70 jb_G_minutes 4 "PleasureGarden" (some .int)) {kb26 : Int32 → Int32 → j_M → Option (Int32 × j_M)} (hkb26 : ∀ (x1 : Int32) (x2 : Int32) (I : j_M) (r : Int32 × j_M), kb26 x1 x2 I = some r → j_W p l e R s m args below meth c 4 g b n 0 0 (j_Qi g b n P below args s r) I P 26 [some (.ref (b + 0)), some (.int x1), some (.int x2), none] []) {x1 : Int32} {x2 : Int32} {I : j_M} {r : Int32 × j_M}  (h : f_G_minutes_90 F kb26 x1 x2 I = some r) : j_W p l e R s m args below meth c 4 g b n 0 0 (j_Qi g b n P below args s r) I P 90 [some (.ref (b + 0)), some (.int x1), some (.int x2), none] [] := by
  unfold f_G_minutes_90 at h
  refine j_aload_n X jd_G_minutes_90 rfl rfl ?_
  refine j_callVv (As := []) (st := []) (c0 := 0) X h jc_G js_0 (j_lt rfl hn) ⟨jqc_G_serveOrders, jqi_G_serveOrders, jqv_G_serveOrders, jqn_G⟩ jlm_G_185 jh_G_serveOrders rfl (by decide) (by decide) (Nat.le_of_ble_eq_true rfl) ⟨Nat.zero_le _, Nat.zero_le _⟩ (fun v0 I0 h => k_G_serveOrders (r := (v0, I0)) hF hn h) jd_G_minutes_91 rfl (fun v1 I2 h => ?_)
  refine j_aload_n X jd_G_minutes_94 rfl rfl ?_
  refine j_dup X jd_G_minutes_95 rfl ?_
  refine j_get X jf_G_86 jk_0_13 js_0 (j_lt rfl hn) jd_G_minutes_96 ?_
  refine j_aload_n X jd_G_minutes_99 rfl rfl ?_
  refine j_callVi (As := []) (st := [.int (I2 0 13), .ref (b + 0)]) (c0 := 0) X h jc_G js_0 (j_lt rfl hn) ⟨jqc_G_overcrowding, jqi_G_overcrowding, jqv_G_overcrowding, jqn_G⟩ jlm_G_188 jh_G_overcrowding rfl (by decide) (by decide) (Nat.le_of_ble_eq_true rfl) ⟨Nat.zero_le _, Nat.zero_le _⟩ (fun v0 I0 h => k_G_overcrowding (r := (v0, I0)) hF hn h) jd_G_minutes_100 rfl (fun v3 I4 h => ?_)
  refine j_iadd X jd_G_minutes_103 ?_
  refine j_puti X jt_G jto_G jn_G jf_G_86 jk_0_13 js_0 (j_lt rfl hn) (Or.inl rfl) rfl jd_G_minutes_104 ?_
  refine j_mem h (fun I5 h => ?_)
  refine j_aload_n X jd_G_minutes_107 rfl rfl ?_
  refine j_getr X jf_G_37 jk_0_4 js_0 (j_lt rfl hn) (jp_0_4 hF) jd_G_minutes_108 ?_
  refine j_aload_n X jd_G_minutes_111 rfl rfl ?_
  refine j_get X jf_G_80 jk_0_11 js_0 (j_lt rfl hn) jd_G_minutes_112 ?_
  refine j_iconst (v := 1) X jd_G_minutes_115 (by decide) ?_
  refine j_iadd X jd_G_minutes_116 ?_
  refine j_puti X jt_Wa jto_Wa jn_Wa jf_G_176 jk_5_0 js_143 (j_lt rfl hn) (Or.inl rfl) rfl jd_G_minutes_117 ?_
  refine j_mem h (fun I6 h => ?_)
  obtain ⟨v7, ev7, h⟩ := j_ex h
  refine j_iinc (v := v7) (lv' := [some (.ref (b + 0)), some (.int x1), some (.int v7), none]) X jd_G_minutes_120 rfl (by rw [ev7]; rfl) (by decide) rfl ?_
  refine j_goto (tgt := 26) X jd_G_minutes_123 rfl ?_
  exact hkb26 _ _ _ _ h
set_option maxRecDepth 100000 in
set_option maxHeartbeats 4000000 in
theorem k_G_minutes_26b {p : Program} {l : Launch} {e : Env} {R : Room} {s : State} {m : MethodId} {args : Array Value} {below : List Frame} {meth : Method} {c : Code} {g : j_G} {b n : Nat} {P : j_R} {F : Nat} (hF : j_Fx 0 260 P) (hn : 260 ≤ n) (X : j_X p R s m args meth c g b 70 jb_G_minutes 4 "PleasureGarden" (some .int)) {kb26 : Int32 → Int32 → j_M → Option (Int32 × j_M)} (hkb26 : ∀ (x1 : Int32) (x2 : Int32) (I : j_M) (r : Int32 × j_M), kb26 x1 x2 I = some r → j_W p l e R s m args below meth c 4 g b n 0 0 (j_Qi g b n P below args s r) I P 26 [some (.ref (b + 0)), some (.int x1), some (.int x2), none] []) {x1 : Int32} {x2 : Int32} {I : j_M} {r : Int32 × j_M}  (h : f_G_minutes_26b F kb26 x1 x2 I = some r) : j_W p l e R s m args below meth c 4 g b n 0 0 (j_Qi g b n P below args s r) I P 26 [some (.ref (b + 0)), some (.int x1), some (.int x2), none] [] := by
  unfold f_G_minutes_26b at h
  refine j_iload_n X jd_G_minutes_26 rfl rfl ?_
  refine j_iload_n X jd_G_minutes_27 rfl rfl ?_
  refine j_icmp_ge (tgt := 126) X jd_G_minutes_28 rfl h (fun h => ?_) (fun h => ?_)
  · refine j_aload_n X jd_G_minutes_126 rfl rfl ?_
    refine j_get X jf_G_80 jk_0_11 js_0 (j_lt rfl hn) jd_G_minutes_127 ?_
    exact j_iret X rfl jd_G_minutes_130 h
  · refine j_aload_n X jd_G_minutes_31 rfl rfl ?_
    refine j_getr X jf_G_19 jk_0_1 js_0 (j_lt rfl hn) (jp_0_1 hF) jd_G_minutes_32 ?_
    refine j_aload_n X jd_G_minutes_35 rfl rfl ?_
    refine j_get X jf_G_80 jk_0_11 js_0 (j_lt rfl hn) jd_G_minutes_36 ?_
    refine j_callVi (As := [.int (I 0 11)]) (st := []) (c0 := 38) X h jc_Sk js_38 (j_lt rfl hn) ⟨jqc_Sk_rains, jqi_Sk_rains, jqv_Sk_rains, jqn_Sk⟩ jlm_G_173 jh_Sk_rains rfl (by decide) (by decide) (Nat.le_of_ble_eq_true rfl) ⟨Nat.zero_le _, Nat.zero_le _⟩ (fun v0 I0 h => k_Sk_rains (r := (v0, I0)) hF hn h) jd_G_minutes_39 rfl (fun v8 I9 h => ?_)
    refine j_istore_n (lv' := [some (.ref (b + 0)), some (.int x1), some (.int x2), some (.int v8)]) X jd_G_minutes_42 rfl (by decide) rfl ?_
    refine j_aload_n X jd_G_minutes_43 rfl rfl ?_
    refine j_dup X jd_G_minutes_44 rfl ?_
    refine j_get X jf_G_80 jk_0_11 js_0 (j_lt rfl hn) jd_G_minutes_45 ?_
    refine j_iconst (v := 1) X jd_G_minutes_48 (by decide) ?_
    refine j_iadd X jd_G_minutes_49 ?_
    refine j_puti X jt_G jto_G jn_G jf_G_80 jk_0_11 js_0 (j_lt rfl hn) (Or.inl rfl) rfl jd_G_minutes_50 ?_
    refine j_mem h (fun I10 h => ?_)
    refine j_aload_n X jd_G_minutes_53 rfl rfl ?_
    refine j_getr X jf_G_37 jk_0_4 js_0 (j_lt rfl hn) (jp_0_4 hF) jd_G_minutes_54 ?_
    refine j_aload_n X jd_G_minutes_57 rfl rfl ?_
    refine j_get X jf_G_80 jk_0_11 js_0 (j_lt rfl hn) jd_G_minutes_58 ?_
    refine j_puti X jt_Wa jto_Wa jn_Wa jf_G_176 jk_5_0 js_143 (j_lt rfl hn) (Or.inl rfl) rfl jd_G_minutes_61 ?_
    refine j_mem h (fun I11 h => ?_)
    refine j_aload_n X jd_G_minutes_64 rfl rfl ?_
    refine j_callVv (As := []) (st := []) (c0 := 0) X h jc_G js_0 (j_lt rfl hn) ⟨jqc_G_seatArrivals, jqi_G_seatArrivals, jqv_G_seatArrivals, jqn_G⟩ jlm_G_179 jh_G_seatArrivals rfl (by decide) (by decide) (Nat.le_of_ble_eq_true rfl) ⟨Nat.zero_le _, Nat.zero_le _⟩ (fun v0 I0 h => k_G_seatArrivals (r := (v0, I0)) hF hn h) jd_G_minutes_65 rfl (fun v12 I13 h => ?_)
    refine j_iload_n X jd_G_minutes_68 rfl rfl ?_
    refine j_if_ne (tgt := 90) X jd_G_minutes_69 rfl h (fun h => ?_) (fun h => ?_)
    · refine j_aload_n X jd_G_minutes_72 rfl rfl ?_
      refine j_getr X jf_G_19 jk_0_1 js_0 (j_lt rfl hn) (jp_0_1 hF) jd_G_minutes_73 ?_
      refine j_aload_n X jd_G_minutes_76 rfl rfl ?_
      refine j_get X jf_G_80 jk_0_11 js_0 (j_lt rfl hn) jd_G_minutes_77 ?_
      refine j_callVi (As := [.int (I13 0 11)]) (st := []) (c0 := 38) X h jc_Sk js_38 (j_lt rfl hn) ⟨jqc_Sk_rains, jqi_Sk_rains, jqv_Sk_rains, jqn_Sk⟩ jlm_G_173 jh_Sk_rains rfl (by decide) (by decide) (Nat.le_of_ble_eq_true rfl) ⟨Nat.zero_le _, Nat.zero_le _⟩ (fun v0 I0 h => k_Sk_rains (r := (v0, I0)) hF hn h) jd_G_minutes_80 rfl (fun v14 I15 h => ?_)
      refine j_if_eq (tgt := 90) X jd_G_minutes_83 rfl h (fun h => ?_) (fun h => ?_)
      · refine j_sub [true, true, true, false] (lv' := [some (.ref (b + 0)), some (.int x1), some (.int x2), none]) rfl ?_
        exact k_G_minutes_90 hF hn X hkb26 h
      · refine j_aload_n X jd_G_minutes_86 rfl rfl ?_
        refine j_callVv (As := []) (st := []) (c0 := 0) X h jc_G js_0 (j_lt rfl hn) ⟨jqc_G_seekShelter, jqi_G_seekShelter, jqv_G_seekShelter, jqn_G⟩ jlm_G_182 jh_G_seekShelter rfl (by decide) (by decide) (Nat.le_of_ble_eq_true rfl) ⟨Nat.zero_le _, Nat.zero_le _⟩ (fun v0 I0 h => k_G_seekShelter (r := (v0, I0)) hF hn h) jd_G_minutes_87 rfl (fun v16 I17 h => ?_)
        refine j_sub [true, true, true, false] (lv' := [some (.ref (b + 0)), some (.int x1), some (.int x2), none]) rfl ?_
        exact k_G_minutes_90 hF hn X hkb26 h
    · refine j_sub [true, true, true, false] (lv' := [some (.ref (b + 0)), some (.int x1), some (.int x2), none]) rfl ?_
      exact k_G_minutes_90 hF hn X hkb26 h
set_option maxRecDepth 100000 in
set_option maxHeartbeats 4000000 in
theorem k_G_minutes_26 {p : Program} {l : Launch} {e : Env} {R : Room} {s : State} {m : MethodId} {args : Array Value} {below : List Frame} {meth : Method} {c : Code} {g : j_G} {b n : Nat} {P : j_R} {F : Nat} (hF : j_Fx 0 260 P) (hn : 260 ≤ n) (X : j_X p R s m args meth c g b 70 jb_G_minutes 4 "PleasureGarden" (some .int))  {x1 : Int32} {x2 : Int32} {I : j_M} {r : Int32 × j_M} (h : f_G_minutes_26 F x1 x2 I = some r) : j_W p l e R s m args below meth c 4 g b n 0 0 (j_Qi g b n P below args s r) I P 26 [some (.ref (b + 0)), some (.int x1), some (.int x2), none] [] := by
  refine j_loop (G := fun (q : Int32 × Int32 × j_M) (r : Int32 × j_M) => j_W p l e R s m args below meth c 4 g b n 0 0 (j_Qi g b n P below args s r) q.2.2 P 26 [some (.ref (b + 0)), some (.int (q.1)), some (.int (q.2.1)), none] []) ?_ F (x1, x2, I) r h
  intro again hrec0 q r h
  exact k_G_minutes_26b hF hn X (fun x1 x2 I r h => hrec0 (x1, x2, I) r h)  h
set_option maxRecDepth 100000 in
set_option maxHeartbeats 4000000 in
theorem k_G_minutes {l : Launch} {g : j_G} {b n : Nat} {P : j_R} {F : Nat} (hF : j_Fx 0 260 P) (hn : 260 ≤ n) {x1 : Int32} {I : j_M} {r : Int32 × j_M}  (h : f_G_minutes F x1 I = some r) : j_Met l g b n P 70 jy_G_minutes jb_G_minutes 4 (some .int) [.ref (b + 0), .int x1] I r.2 (some (.int r.1)) := by
  unfold f_G_minutes at h
  refine j_enter (plainFor_of_name (by decide)) (Nat.le_of_ble_eq_true rfl) [some (.ref (b + 0)), some (.int x1), none, none] rfl ?_
  intro p e R s m args below meth c X0 hnm hRc hRs
  have X : j_X p R s m args meth c g b 70 jb_G_minutes 4 "PleasureGarden" (some .int) := X0
  clear X0
  refine j_iload_n X jd_G_minutes_0 rfl rfl ?_
  refine j_iconst (v := 1) X jd_G_minutes_1 (by decide) ?_
  refine j_bipush (v := 60) X jd_G_minutes_2 (by decide) ?_
  refine j_callSi (As := [.int x1, .int 1, .int 60]) (st := []) X h ⟨jqc_G_within, jqs_G_within, jqn_G⟩ jlm_G_92 jh_G_within.2 rfl (by decide) (by decide) (Nat.le_of_ble_eq_true rfl) ⟨Nat.zero_le _, Nat.zero_le _⟩ (fun v0 I0 h => k_G_within (r := (v0, I0)) hF hn h) jd_G_minutes_4 rfl (fun v18 I19 h => ?_)
  refine j_if_eq (tgt := 22) X jd_G_minutes_7 rfl h (fun h => ?_) (fun h => ?_)
  · refine j_iconst (v := (-1)) X jd_G_minutes_22 (by decide) ?_
    exact j_iret X rfl jd_G_minutes_23 h
  · refine j_aload_n X jd_G_minutes_10 rfl rfl ?_
    refine j_get X jf_G_80 jk_0_11 js_0 (j_lt rfl hn) jd_G_minutes_11 ?_
    refine j_iload_n X jd_G_minutes_14 rfl rfl ?_
    refine j_iadd X jd_G_minutes_15 ?_
    refine j_sipush (v := 480) X jd_G_minutes_16 (by decide) ?_
    refine j_icmp_lt (tgt := 24) X jd_G_minutes_19 rfl h (fun h => ?_) (fun h => ?_)
    · refine j_iconst (v := 0) X jd_G_minutes_24 (by decide) ?_
      refine j_istore_n (lv' := [some (.ref (b + 0)), some (.int x1), some (.int 0), none]) X jd_G_minutes_25 rfl (by decide) rfl ?_
      exact k_G_minutes_26 hF hn X h
    · refine j_iconst (v := (-1)) X jd_G_minutes_22 (by decide) ?_
      exact j_iret X rfl jd_G_minutes_23 h
-- PleasureGarden.close()I
theorem jd_G_close_0 : decode jb_G_close 0 = .ok (.aload_n 0, 1) := by decide +kernel
theorem jd_G_close_1 : decode jb_G_close 1 = .ok (.getfield 76, 3) := by decide +kernel
theorem jd_G_close_4 : decode jb_G_close 4 = .ok (.sipush 199, 3) := by decide +kernel
theorem jd_G_close_7 : decode jb_G_close 7 = .ok (.if_icmp .lt 6, 3) := by decide +kernel
theorem jd_G_close_10 : decode jb_G_close 10 = .ok (.bipush (-2), 2) := by decide +kernel
theorem jd_G_close_12 : decode jb_G_close 12 = .ok (.ireturn, 1) := by decide +kernel
theorem jd_G_close_13 : decode jb_G_close 13 = .ok (.iconst 0, 1) := by decide +kernel
theorem jd_G_close_14 : decode jb_G_close 14 = .ok (.istore_n 1, 1) := by decide +kernel
theorem jd_G_close_15 : decode jb_G_close 15 = .ok (.iload_n 1, 1) := by decide +kernel
theorem jd_G_close_16 : decode jb_G_close 16 = .ok (.aload_n 0, 1) := by decide +kernel
theorem jd_G_close_17 : decode jb_G_close 17 = .ok (.getfield 30, 3) := by decide +kernel
theorem jd_G_close_20 : decode jb_G_close 20 = .ok (.getfield 124, 3) := by decide +kernel
theorem jd_G_close_23 : decode jb_G_close 23 = .ok (.if_icmp .ge 38, 3) := by decide +kernel
theorem jd_G_close_26 : decode jb_G_close 26 = .ok (.aload_n 0, 1) := by decide +kernel
theorem jd_G_close_27 : decode jb_G_close 27 = .ok (.getfield 30, 3) := by decide +kernel
theorem jd_G_close_30 : decode jb_G_close 30 = .ok (.getfield 148, 3) := by decide +kernel
theorem jd_G_close_33 : decode jb_G_close 33 = .ok (.iload_n 1, 1) := by decide +kernel
theorem jd_G_close_34 : decode jb_G_close 34 = .ok (.aaload, 1) := by decide +kernel
theorem jd_G_close_35 : decode jb_G_close 35 = .ok (.invokevirtual 272, 3) := by decide +kernel
theorem jd_G_close_38 : decode jb_G_close 38 = .ok (.ifCond .eq 17, 3) := by decide +kernel
theorem jd_G_close_41 : decode jb_G_close 41 = .ok (.aload_n 0, 1) := by decide +kernel
theorem jd_G_close_42 : decode jb_G_close 42 = .ok (.aload_n 0, 1) := by decide +kernel
theorem jd_G_close_43 : decode jb_G_close 43 = .ok (.getfield 30, 3) := by decide +kernel
theorem jd_G_close_46 : decode jb_G_close 46 = .ok (.getfield 148, 3) := by decide +kernel
theorem jd_G_close_49 : decode jb_G_close 49 = .ok (.iload_n 1, 1) := by decide +kernel
theorem jd_G_close_50 : decode jb_G_close 50 = .ok (.aaload, 1) := by decide +kernel
theorem jd_G_close_51 : decode jb_G_close 51 = .ok (.invokevirtual 162, 3) := by decide +kernel
theorem jd_G_close_54 : decode jb_G_close 54 = .ok (.pop, 1) := by decide +kernel
theorem jd_G_close_55 : decode jb_G_close 55 = .ok (.iinc 1 1, 3) := by decide +kernel
theorem jd_G_close_58 : decode jb_G_close 58 = .ok (.goto (-43), 3) := by decide +kernel
theorem jd_G_close_61 : decode jb_G_close 61 = .ok (.aload_n 0, 1) := by decide +kernel
theorem jd_G_close_62 : decode jb_G_close 62 = .ok (.getfield 89, 3) := by decide +kernel
theorem jd_G_close_65 : decode jb_G_close 65 = .ok (.istore_n 1, 1) := by decide +kernel
theorem jd_G_close_66 : decode jb_G_close 66 = .ok (.aload_n 0, 1) := by decide +kernel
theorem jd_G_close_67 : decode jb_G_close 67 = .ok (.getfield 72, 3) := by decide +kernel
theorem jd_G_close_70 : decode jb_G_close 70 = .ok (.iload_n 1, 1) := by decide +kernel
theorem jd_G_close_71 : decode jb_G_close 71 = .ok (.aload_n 0, 1) := by decide +kernel
theorem jd_G_close_72 : decode jb_G_close 72 = .ok (.getfield 19, 3) := by decide +kernel
theorem jd_G_close_75 : decode jb_G_close 75 = .ok (.iconst 0, 1) := by decide +kernel
theorem jd_G_close_76 : decode jb_G_close 76 = .ok (.aload_n 0, 1) := by decide +kernel
theorem jd_G_close_77 : decode jb_G_close 77 = .ok (.getfield 80, 3) := by decide +kernel
theorem jd_G_close_80 : decode jb_G_close 80 = .ok (.invokevirtual 276, 3) := by decide +kernel
theorem jd_G_close_83 : decode jb_G_close 83 = .ok (.aload_n 0, 1) := by decide +kernel
theorem jd_G_close_84 : decode jb_G_close 84 = .ok (.getfield 30, 3) := by decide +kernel
theorem jd_G_close_87 : decode jb_G_close 87 = .ok (.invokevirtual 279, 3) := by decide +kernel
theorem jd_G_close_90 : decode jb_G_close 90 = .ok (.invokevirtual 282, 3) := by decide +kernel
theorem jd_G_close_93 : decode jb_G_close 93 = .ok (.aload_n 0, 1) := by decide +kernel
theorem jd_G_close_94 : decode jb_G_close 94 = .ok (.dup, 1) := by decide +kernel
theorem jd_G_close_95 : decode jb_G_close 95 = .ok (.getfield 76, 3) := by decide +kernel
theorem jd_G_close_98 : decode jb_G_close 98 = .ok (.iconst 1, 1) := by decide +kernel
theorem jd_G_close_99 : decode jb_G_close 99 = .ok (.iadd, 1) := by decide +kernel
theorem jd_G_close_100 : decode jb_G_close 100 = .ok (.putfield 76, 3) := by decide +kernel
theorem jd_G_close_103 : decode jb_G_close 103 = .ok (.aload_n 0, 1) := by decide +kernel
theorem jd_G_close_104 : decode jb_G_close 104 = .ok (.invokevirtual 286, 3) := by decide +kernel
theorem jd_G_close_107 : decode jb_G_close 107 = .ok (.iload_n 1, 1) := by decide +kernel
theorem jd_G_close_108 : decode jb_G_close 108 = .ok (.ireturn, 1) := by decide +kernel
def f_G_close_55 (F : Nat) (kb15 : Int32 → j_M → Option (Int32 × j_M)) (x1 : Int32) (I : j_M) : Option (Int32 × j_M) := j_let (x1 + 1) (fun v1 => kb15 v1 I)
def f_G_close_15b (F : Nat) (kb15 : Int32 → j_M → Option (Int32 × j_M)) (x1 : Int32) (I : j_M) : Option (Int32 × j_M) := (if (I 41 0) ≤ x1 then j_let (I 0 14) (fun v2 => j_bd (f_Sk_wetMinutes F 0 (I 0 11) I) (fun v3 I4 => j_bd (f_Gu_headsThatCame F I4) (fun v5 I6 => j_bd (f_Le_keep F v2 v3 v5 I6) (fun v7 I8 => j_let (j_wr I8 0 10 ((I8 0 10) + 1)) (fun I9 => j_bd (f_G_beginNight F I9) (fun v10 I11 => some (v2, I11))))))) else (if j_ok x1 100 = true then j_bd (f_Pa_isIn F (j_ix x1) I) (fun v13 I14 => (if v13 = 0 then f_G_close_55 F kb15 x1 I14 else (if j_ok x1 100 = true then j_bd (f_G_showOut F (j_ix x1) I14) (fun v16 I17 => f_G_close_55 F kb15 x1 I17) else none))) else none))
def f_G_close_15 (F : Nat)  (x1 : Int32) (I : j_M) : Option (Int32 × j_M) := j_it (fun (again : Int32 × j_M → Option (Int32 × j_M)) (q : Int32 × j_M) => f_G_close_15b F  (fun x1 I => again (x1, I))  q.1 q.2) F (x1, I)
def f_G_close (F : Nat)  (I : j_M) : Option (Int32 × j_M) := (if (I 0 10) < 199 then f_G_close_15 F 0 I else some ((-2), I))
set_option maxRecDepth 100000 in
set_option maxHeartbeats 4000000 in
theorem k_G_close_55 {p : Program} {l : Launch} {e : Env} {R : Room} {s : State} {m : MethodId} {args : Array Value} {below : List Frame} {meth : Method} {c : Code} {g : j_G} {b n : Nat} {P : j_R} {F : Nat} (hF : j_Fx 0 260 P) (hn : 260 ≤ n) (X : j_X p R s m args meth c g b 70 jb_G_close 2 "PleasureGarden" (some .int)) {kb15 : Int32 → j_M → Option (Int32 × j_M)} (hkb15 : ∀ (x1 : Int32) (I : j_M) (r : Int32 × j_M), kb15 x1 I = some r → j_W p l e R s m args below meth c 2 g b n 0 0 (j_Qi g b n P below args s r) I P 15 [some (.ref (b + 0)), some (.int x1)] []) {x1 : Int32} {I : j_M} {r : Int32 × j_M}  (h : f_G_close_55 F kb15 x1 I = some r) : j_W p l e R s m args below meth c 2 g b n 0 0 (j_Qi g b n P below args s r) I P 55 [some (.ref (b + 0)), some (.int x1)] [] := by
  unfold f_G_close_55 at h
  obtain ⟨v1, ev1, h⟩ := j_ex h
  refine j_iinc (v := v1) (lv' := [some (.ref (b + 0)), some (.int v1)]) X jd_G_close_55 rfl (by rw [ev1]; rfl) (by decide) rfl ?_
  refine j_goto (tgt := 15) X jd_G_close_58 rfl ?_
  exact hkb15 _ _ _ h
set_option maxRecDepth 100000 in
set_option maxHeartbeats 4000000 in
theorem k_G_close_15b {p : Program} {l : Launch} {e : Env} {R : Room} {s : State} {m : MethodId} {args : Array Value} {below : List Frame} {meth : Method} {c : Code} {g : j_G} {b n : Nat} {P : j_R} {F : Nat} (hF : j_Fx 0 260 P) (hn : 260 ≤ n) (X : j_X p R s m args meth c g b 70 jb_G_close 2 "PleasureGarden" (some .int)) {kb15 : Int32 → j_M → Option (Int32 × j_M)} (hkb15 : ∀ (x1 : Int32) (I : j_M) (r : Int32 × j_M), kb15 x1 I = some r → j_W p l e R s m args below meth c 2 g b n 0 0 (j_Qi g b n P below args s r) I P 15 [some (.ref (b + 0)), some (.int x1)] []) {x1 : Int32} {I : j_M} {r : Int32 × j_M}  (h : f_G_close_15b F kb15 x1 I = some r) : j_W p l e R s m args below meth c 2 g b n 0 0 (j_Qi g b n P below args s r) I P 15 [some (.ref (b + 0)), some (.int x1)] [] := by
  unfold f_G_close_15b at h
  refine j_iload_n X jd_G_close_15 rfl rfl ?_
  refine j_aload_n X jd_G_close_16 rfl rfl ?_
  refine j_getr X jf_G_30 jk_0_3 js_0 (j_lt rfl hn) (jp_0_3 hF) jd_G_close_17 ?_
  refine j_get X jf_G_124 jk_3_0 js_41 (j_lt rfl hn) jd_G_close_20 ?_
  refine j_icmp_ge (tgt := 61) X jd_G_close_23 rfl h (fun h => ?_) (fun h => ?_)
  · refine j_aload_n X jd_G_close_61 rfl rfl ?_
    refine j_get X jf_G_89 jk_0_14 js_0 (j_lt rfl hn) jd_G_close_62 ?_
    refine j_nm h (fun v2 h => ?_)
    refine j_istore_n (lv' := [some (.ref (b + 0)), some (.int v2)]) X jd_G_close_65 rfl (by decide) rfl ?_
    refine j_aload_n X jd_G_close_66 rfl rfl ?_
    refine j_getr X jf_G_72 jk_0_9 js_0 (j_lt rfl hn) (jp_0_9 hF) jd_G_close_67 ?_
    refine j_iload_n X jd_G_close_70 rfl rfl ?_
    refine j_aload_n X jd_G_close_71 rfl rfl ?_
    refine j_getr X jf_G_19 jk_0_1 js_0 (j_lt rfl hn) (jp_0_1 hF) jd_G_close_72 ?_
    refine j_iconst (v := 0) X jd_G_close_75 (by decide) ?_
    refine j_aload_n X jd_G_close_76 rfl rfl ?_
    refine j_get X jf_G_80 jk_0_11 js_0 (j_lt rfl hn) jd_G_close_77 ?_
    refine j_callVi (As := [.int 0, .int (I 0 11)]) (st := [.int v2, .ref (b + 211)]) (c0 := 38) X h jc_Sk js_38 (j_lt rfl hn) ⟨jqc_Sk_wetMinutes, jqi_Sk_wetMinutes, jqv_Sk_wetMinutes, jqn_Sk⟩ jlm_G_276 jh_Sk_wetMinutes rfl (by decide) (by decide) (Nat.le_of_ble_eq_true rfl) ⟨Nat.zero_le _, Nat.zero_le _⟩ (fun v0 I0 h => k_Sk_wetMinutes (r := (v0, I0)) hF hn h) jd_G_close_80 rfl (fun v3 I4 h => ?_)
    refine j_aload_n X jd_G_close_83 rfl rfl ?_
    refine j_getr X jf_G_30 jk_0_3 js_0 (j_lt rfl hn) (jp_0_3 hF) jd_G_close_84 ?_
    refine j_callVi (As := []) (st := [.int v3, .int v2, .ref (b + 211)]) (c0 := 41) X h jc_Gu js_41 (j_lt rfl hn) ⟨jqc_Gu_headsThatCame, jqi_Gu_headsThatCame, jqv_Gu_headsThatCame, jqn_Gu⟩ jlm_G_279 jh_Gu_headsThatCame rfl (by decide) (by decide) (Nat.le_of_ble_eq_true rfl) ⟨Nat.zero_le _, Nat.zero_le _⟩ (fun v0 I0 h => k_Gu_headsThatCame (r := (v0, I0)) hF hn h) jd_G_close_87 rfl (fun v5 I6 h => ?_)
    refine j_callVv (As := [.int v2, .int v3, .int v5]) (st := []) (c0 := 211) X h jc_Le js_211 (j_lt rfl hn) ⟨jqc_Le_keep, jqi_Le_keep, jqv_Le_keep, jqn_Le⟩ jlm_G_282 jh_Le_keep rfl (by decide) (by decide) (Nat.le_of_ble_eq_true rfl) ⟨Nat.zero_le _, Nat.zero_le _⟩ (fun v0 I0 h => k_Le_keep (r := (v0, I0)) hF hn h) jd_G_close_90 rfl (fun v7 I8 h => ?_)
    refine j_aload_n X jd_G_close_93 rfl rfl ?_
    refine j_dup X jd_G_close_94 rfl ?_
    refine j_get X jf_G_76 jk_0_10 js_0 (j_lt rfl hn) jd_G_close_95 ?_
    refine j_iconst (v := 1) X jd_G_close_98 (by decide) ?_
    refine j_iadd X jd_G_close_99 ?_
    refine j_puti X jt_G jto_G jn_G jf_G_76 jk_0_10 js_0 (j_lt rfl hn) (Or.inl rfl) rfl jd_G_close_100 ?_
    refine j_mem h (fun I9 h => ?_)
    refine j_aload_n X jd_G_close_103 rfl rfl ?_
    refine j_callVv (As := []) (st := []) (c0 := 0) X h jc_G js_0 (j_lt rfl hn) ⟨jqc_G_beginNight, jqi_G_beginNight, jqv_G_beginNight, jqn_G⟩ jlm_G_286 jh_G_beginNight rfl (by decide) (by decide) (Nat.le_of_ble_eq_true rfl) ⟨Nat.zero_le _, Nat.zero_le _⟩ (fun v0 I0 h => k_G_beginNight (r := (v0, I0)) hF hn h) jd_G_close_104 rfl (fun v10 I11 h => ?_)
    refine j_iload_n X jd_G_close_107 rfl rfl ?_
    exact j_iret X rfl jd_G_close_108 h
  · refine j_aload_n X jd_G_close_26 rfl rfl ?_
    refine j_getr X jf_G_30 jk_0_3 js_0 (j_lt rfl hn) (jp_0_3 hF) jd_G_close_27 ?_
    refine j_getr X jf_G_148 jk_3_1 js_41 (j_lt rfl hn) (jp_41_1 hF) jd_G_close_30 ?_
    refine j_iload_n X jd_G_close_33 rfl rfl ?_
    refine j_aald X rfl rfl js_42 (j_lt rfl hn) jd_G_close_34 (fun q => ja_42 hF _ (j_ok_lt q)) h (fun hb12 h => ?_)
    refine j_callVi (As := []) (st := []) (c0 := (43 + (j_ix x1))) X h jc_Pa (jsp_43 (j_ok_lt hb12)) (j_ltq (j_ok_lt hb12) rfl hn) ⟨jqc_Pa_isIn, jqi_Pa_isIn, jqv_Pa_isIn, jqn_Pa⟩ jlm_G_272 jh_Pa_isIn rfl (by decide) (by decide) (Nat.le_of_ble_eq_true rfl) ⟨Nat.zero_le _, Nat.zero_le _⟩ (fun v0 I0 h => k_Pa_isIn (r := (v0, I0)) hF hn (j_ok_lt hb12) h) jd_G_close_35 rfl (fun v13 I14 h => ?_)
    refine j_if_eq (tgt := 55) X jd_G_close_38 rfl h (fun h => ?_) (fun h => ?_)
    · exact k_G_close_55 hF hn X hkb15 h
    · refine j_aload_n X jd_G_close_41 rfl rfl ?_
      refine j_aload_n X jd_G_close_42 rfl rfl ?_
      refine j_getr X jf_G_30 jk_0_3 js_0 (j_lt rfl hn) (jp_0_3 hF) jd_G_close_43 ?_
      refine j_getr X jf_G_148 jk_3_1 js_41 (j_lt rfl hn) (jp_41_1 hF) jd_G_close_46 ?_
      refine j_iload_n X jd_G_close_49 rfl rfl ?_
      refine j_aald X rfl rfl js_42 (j_lt rfl hn) jd_G_close_50 (fun q => ja_42 hF _ (j_ok_lt q)) h (fun hb15 h => ?_)
      refine j_callVi (As := [.ref (b + (43 + (j_ix x1)))]) (st := []) (c0 := 0) X h jc_G js_0 (j_lt rfl hn) ⟨jqc_G_showOut, jqi_G_showOut, jqv_G_showOut, jqn_G⟩ jlm_G_162 jh_G_showOut rfl (by decide) (by decide) (Nat.le_of_ble_eq_true rfl) ⟨Nat.zero_le _, Nat.zero_le _⟩ (fun v0 I0 h => k_G_showOut (r := (v0, I0)) hF hn (j_ok_lt hb15) h) jd_G_close_51 rfl (fun v16 I17 h => ?_)
      refine j_pop X jd_G_close_54 rfl ?_
      exact k_G_close_55 hF hn X hkb15 h
set_option maxRecDepth 100000 in
set_option maxHeartbeats 4000000 in
theorem k_G_close_15 {p : Program} {l : Launch} {e : Env} {R : Room} {s : State} {m : MethodId} {args : Array Value} {below : List Frame} {meth : Method} {c : Code} {g : j_G} {b n : Nat} {P : j_R} {F : Nat} (hF : j_Fx 0 260 P) (hn : 260 ≤ n) (X : j_X p R s m args meth c g b 70 jb_G_close 2 "PleasureGarden" (some .int))  {x1 : Int32} {I : j_M} {r : Int32 × j_M} (h : f_G_close_15 F x1 I = some r) : j_W p l e R s m args below meth c 2 g b n 0 0 (j_Qi g b n P below args s r) I P 15 [some (.ref (b + 0)), some (.int x1)] [] := by
  refine j_loop (G := fun (q : Int32 × j_M) (r : Int32 × j_M) => j_W p l e R s m args below meth c 2 g b n 0 0 (j_Qi g b n P below args s r) q.2 P 15 [some (.ref (b + 0)), some (.int (q.1))] []) ?_ F (x1, I) r h
  intro again hrec0 q r h
  exact k_G_close_15b hF hn X (fun x1 I r h => hrec0 (x1, I) r h)  h
set_option maxRecDepth 100000 in
set_option maxHeartbeats 4000000 in
theorem k_G_close {l : Launch} {g : j_G} {b n : Nat} {P : j_R} {F : Nat} (hF : j_Fx 0 260 P) (hn : 260 ≤ n)  {I : j_M} {r : Int32 × j_M}  (h : f_G_close F I = some r) : j_Met l g b n P 70 jy_G_close jb_G_close 2 (some .int) [.ref (b + 0)] I r.2 (some (.int r.1)) := by
  unfold f_G_close at h
  refine j_enter (plainFor_of_name (by decide)) (Nat.le_of_ble_eq_true rfl) [some (.ref (b + 0)), none] rfl ?_
  intro p e R s m args below meth c X0 hnm hRc hRs
  have X : j_X p R s m args meth c g b 70 jb_G_close 2 "PleasureGarden" (some .int) := X0
  clear X0
  refine j_aload_n X jd_G_close_0 rfl rfl ?_
  refine j_get X jf_G_76 jk_0_10 js_0 (j_lt rfl hn) jd_G_close_1 ?_
  refine j_sipush (v := 199) X jd_G_close_4 (by decide) ?_
  refine j_icmp_lt (tgt := 13) X jd_G_close_7 rfl h (fun h => ?_) (fun h => ?_)
  · refine j_iconst (v := 0) X jd_G_close_13 (by decide) ?_
    refine j_istore_n (lv' := [some (.ref (b + 0)), some (.int 0)]) X jd_G_close_14 rfl (by decide) rfl ?_
    exact k_G_close_15 hF hn X h
  · refine j_bipush (v := (-2)) X jd_G_close_10 (by decide) ?_
    exact j_iret X rfl jd_G_close_12 h
