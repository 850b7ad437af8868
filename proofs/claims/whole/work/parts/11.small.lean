-- PleasureGarden.within(III)Z
theorem jd_G_within_0 : decode jb_G_within 0 = .ok (.iload_n 0, 1) := by decide +kernel
theorem jd_G_within_1 : decode jb_G_within 1 = .ok (.iload_n 1, 1) := by decide +kernel
theorem jd_G_within_2 : decode jb_G_within 2 = .ok (.if_icmp .lt 12, 3) := by decide +kernel
theorem jd_G_within_5 : decode jb_G_within 5 = .ok (.iload_n 0, 1) := by decide +kernel
theorem jd_G_within_6 : decode jb_G_within 6 = .ok (.iload_n 2, 1) := by decide +kernel
theorem jd_G_within_7 : decode jb_G_within 7 = .ok (.if_icmp .gt 7, 3) := by decide +kernel
theorem jd_G_within_10 : decode jb_G_within 10 = .ok (.iconst 1, 1) := by decide +kernel
theorem jd_G_within_11 : decode jb_G_within 11 = .ok (.goto 4, 3) := by decide +kernel
theorem jd_G_within_14 : decode jb_G_within 14 = .ok (.iconst 0, 1) := by decide +kernel
theorem jd_G_within_15 : decode jb_G_within 15 = .ok (.ireturn, 1) := by decide +kernel
def f_G_within (F : Nat) (x0 : Int32) (x1 : Int32) (x2 : Int32) (I : j_M) : Option (Int32 × j_M) := (if x0 < x1 then some (0, I) else (if x2 < x0 then some (0, I) else some (1, I)))
set_option maxRecDepth 100000 in
set_option maxHeartbeats 4000000 in
theorem k_G_within {l : Launch} {g : j_G} {b n : Nat} {P : j_R} {F : Nat} (hF : j_Fx 0 260 P) (hn : 260 ≤ n) {x0 : Int32} {x1 : Int32} {x2 : Int32} {I : j_M} {r : Int32 × j_M}  (h : f_G_within F x0 x1 x2 I = some r) : j_Met l g b n P 0 jy_G_within jb_G_within 3 (some .boolean) [.int x0, .int x1, .int x2] I r.2 (some (.int r.1)) := by
  unfold f_G_within at h
  refine j_enter (plainFor_of_name (by decide)) (Nat.le_of_ble_eq_true rfl) [some (.int x0), some (.int x1), some (.int x2)] rfl ?_
  intro p e R s m args below meth c X0 hnm hRc hRs
  have X : j_X p R s m args meth c g b 0 jb_G_within 3 "PleasureGarden" (some .boolean) := X0
  clear X0
  refine j_iload_n X jd_G_within_0 rfl rfl ?_
  refine j_iload_n X jd_G_within_1 rfl rfl ?_
  refine j_icmp_lt (tgt := 14) X jd_G_within_2 rfl h (fun h => ?_) (fun h => ?_)
  · refine j_iconst (v := 0) X jd_G_within_14 (by decide) ?_
    exact j_zret X rfl (by decide) jd_G_within_15 h
  · refine j_iload_n X jd_G_within_5 rfl rfl ?_
    refine j_iload_n X jd_G_within_6 rfl rfl ?_
    refine j_icmp_gt (tgt := 14) X jd_G_within_7 rfl h (fun h => ?_) (fun h => ?_)
    · refine j_iconst (v := 0) X jd_G_within_14 (by decide) ?_
      exact j_zret X rfl (by decide) jd_G_within_15 h
    · refine j_iconst (v := 1) X jd_G_within_10 (by decide) ?_
      refine j_goto (tgt := 15) X jd_G_within_11 rfl ?_
      exact j_zret X rfl (by decide) jd_G_within_15 h
-- PleasureGarden$Sky.add(II)I
theorem jd_Sk_add_0 : decode jb_Sk_add 0 = .ok (.iload_n 1, 1) := by decide +kernel
theorem jd_Sk_add_1 : decode jb_Sk_add 1 = .ok (.istore_n 3, 1) := by decide +kernel
theorem jd_Sk_add_2 : decode jb_Sk_add 2 = .ok (.iload_n 3, 1) := by decide +kernel
theorem jd_Sk_add_3 : decode jb_Sk_add 3 = .ok (.iload_n 2, 1) := by decide +kernel
theorem jd_Sk_add_4 : decode jb_Sk_add 4 = .ok (.if_icmp .ge 16, 3) := by decide +kernel
theorem jd_Sk_add_7 : decode jb_Sk_add 7 = .ok (.aload_n 0, 1) := by decide +kernel
theorem jd_Sk_add_8 : decode jb_Sk_add 8 = .ok (.getfield 15, 3) := by decide +kernel
theorem jd_Sk_add_11 : decode jb_Sk_add 11 = .ok (.iload_n 3, 1) := by decide +kernel
theorem jd_Sk_add_12 : decode jb_Sk_add 12 = .ok (.iconst 1, 1) := by decide +kernel
theorem jd_Sk_add_13 : decode jb_Sk_add 13 = .ok (.bastore, 1) := by decide +kernel
theorem jd_Sk_add_14 : decode jb_Sk_add 14 = .ok (.iinc 3 1, 3) := by decide +kernel
theorem jd_Sk_add_17 : decode jb_Sk_add 17 = .ok (.goto (-15), 3) := by decide +kernel
theorem jd_Sk_add_20 : decode jb_Sk_add 20 = .ok (.aload_n 0, 1) := by decide +kernel
theorem jd_Sk_add_21 : decode jb_Sk_add 21 = .ok (.dup, 1) := by decide +kernel
theorem jd_Sk_add_22 : decode jb_Sk_add 22 = .ok (.getfield 9, 3) := by decide +kernel
theorem jd_Sk_add_25 : decode jb_Sk_add 25 = .ok (.iconst 1, 1) := by decide +kernel
theorem jd_Sk_add_26 : decode jb_Sk_add 26 = .ok (.iadd, 1) := by decide +kernel
theorem jd_Sk_add_27 : decode jb_Sk_add 27 = .ok (.putfield 9, 3) := by decide +kernel
theorem jd_Sk_add_30 : decode jb_Sk_add 30 = .ok (.aload_n 0, 1) := by decide +kernel
theorem jd_Sk_add_31 : decode jb_Sk_add 31 = .ok (.getfield 9, 3) := by decide +kernel
theorem jd_Sk_add_34 : decode jb_Sk_add 34 = .ok (.ireturn, 1) := by decide +kernel
def f_Sk_add_2b (F : Nat) (kb2 : Int32 → Int32 → j_M → Option (Int32 × j_M)) (x2 : Int32) (x3 : Int32) (I : j_M) : Option (Int32 × j_M) := (if x2 ≤ x3 then j_let (j_wr I 38 0 ((I 38 0) + 1)) (fun I1 => some (I1 38 0, I1)) else (if j_ok x3 480 = true then j_let (j_wr I 39 (j_ix x3) (1 &&& 1)) (fun I2 => j_let (x3 + 1) (fun v3 => kb2 x2 v3 I2)) else none))
def f_Sk_add_2 (F : Nat)  (x2 : Int32) (x3 : Int32) (I : j_M) : Option (Int32 × j_M) := j_it (fun (again : Int32 × Int32 × j_M → Option (Int32 × j_M)) (q : Int32 × Int32 × j_M) => f_Sk_add_2b F  (fun x2 x3 I => again (x2, x3, I))  q.1 q.2.1 q.2.2) F (x2, x3, I)
def f_Sk_add (F : Nat) (x1 : Int32) (x2 : Int32) (I : j_M) : Option (Int32 × j_M) := f_Sk_add_2 F x2 x1 I
set_option maxRecDepth 100000 in
set_option maxHeartbeats 4000000 in
theorem k_Sk_add_2b {p : Program} {l : Launch} {e : Env} {R : Room} {s : State} {m : MethodId} {args : Array Value} {below : List Frame} {meth : Method} {c : Code} {g : j_G} {b n : Nat} {P : j_R} {F : Nat} (hF : j_Fx 0 260 P) (hn : 260 ≤ n) (X : j_X p R s m args meth c g b 0 jb_Sk_add 4 "PleasureGarden$Sky" (some .int)) {kb2 : Int32 → Int32 → j_M → Option (Int32 × j_M)} (hkb2 : ∀ (x2 : Int32) (x3 : Int32) (I : j_M) (r : Int32 × j_M), kb2 x2 x3 I = some r → j_W p l e R s m args below meth c 4 g b n 0 0 (j_Qi g b n P below args s r) I P 2 [some (.ref (b + 38)), none, some (.int x2), some (.int x3)] []) {x2 : Int32} {x3 : Int32} {I : j_M} {r : Int32 × j_M}  (h : f_Sk_add_2b F kb2 x2 x3 I = some r) : j_W p l e R s m args below meth c 4 g b n 0 0 (j_Qi g b n P below args s r) I P 2 [some (.ref (b + 38)), none, some (.int x2), some (.int x3)] [] := by
  unfold f_Sk_add_2b at h
  refine j_iload_n X jd_Sk_add_2 rfl rfl ?_
  refine j_iload_n X jd_Sk_add_3 rfl rfl ?_
  refine j_icmp_ge (tgt := 20) X jd_Sk_add_4 rfl h (fun h => ?_) (fun h => ?_)
  · refine j_aload_n X jd_Sk_add_20 rfl rfl ?_
    refine j_dup X jd_Sk_add_21 rfl ?_
    refine j_get X jf_Sk_9 jk_2_0 js_38 (j_lt rfl hn) jd_Sk_add_22 ?_
    refine j_iconst (v := 1) X jd_Sk_add_25 (by decide) ?_
    refine j_iadd X jd_Sk_add_26 ?_
    refine j_puti X jt_Sk jto_Sk jn_Sk jf_Sk_9 jk_2_0 js_38 (j_lt rfl hn) (Or.inl rfl) rfl jd_Sk_add_27 ?_
    refine j_mem h (fun I1 h => ?_)
    refine j_aload_n X jd_Sk_add_30 rfl rfl ?_
    refine j_get X jf_Sk_9 jk_2_0 js_38 (j_lt rfl hn) jd_Sk_add_31 ?_
    exact j_iret X rfl jd_Sk_add_34 h
  · refine j_aload_n X jd_Sk_add_7 rfl rfl ?_
    refine j_getr X jf_Sk_15 jk_2_1 js_38 (j_lt rfl hn) (jp_38_1 hF) jd_Sk_add_8 ?_
    refine j_iload_n X jd_Sk_add_11 rfl rfl ?_
    refine j_iconst (v := 1) X jd_Sk_add_12 (by decide) ?_
    refine j_zast X js_39 (j_lt rfl hn) jd_Sk_add_13 h (fun h => ?_)
    refine j_mem h (fun I2 h => ?_)
    obtain ⟨v3, ev3, h⟩ := j_ex h
    refine j_iinc (v := v3) (lv' := [some (.ref (b + 38)), none, some (.int x2), some (.int v3)]) X jd_Sk_add_14 rfl (by rw [ev3]; rfl) (by decide) rfl ?_
    refine j_goto (tgt := 2) X jd_Sk_add_17 rfl ?_
    exact hkb2 _ _ _ _ h
set_option maxRecDepth 100000 in
set_option maxHeartbeats 4000000 in
theorem k_Sk_add_2 {p : Program} {l : Launch} {e : Env} {R : Room} {s : State} {m : MethodId} {args : Array Value} {below : List Frame} {meth : Method} {c : Code} {g : j_G} {b n : Nat} {P : j_R} {F : Nat} (hF : j_Fx 0 260 P) (hn : 260 ≤ n) (X : j_X p R s m args meth c g b 0 jb_Sk_add 4 "PleasureGarden$Sky" (some .int))  {x2 : Int32} {x3 : Int32} {I : j_M} {r : Int32 × j_M} (h : f_Sk_add_2 F x2 x3 I = some r) : j_W p l e R s m args below meth c 4 g b n 0 0 (j_Qi g b n P below args s r) I P 2 [some (.ref (b + 38)), none, some (.int x2), some (.int x3)] [] := by
  refine j_loop (G := fun (q : Int32 × Int32 × j_M) (r : Int32 × j_M) => j_W p l e R s m args below meth c 4 g b n 0 0 (j_Qi g b n P below args s r) q.2.2 P 2 [some (.ref (b + 38)), none, some (.int (q.1)), some (.int (q.2.1))] []) ?_ F (x2, x3, I) r h
  intro again hrec0 q r h
  exact k_Sk_add_2b hF hn X (fun x2 x3 I r h => hrec0 (x2, x3, I) r h)  h
set_option maxRecDepth 100000 in
set_option maxHeartbeats 4000000 in
theorem k_Sk_add {l : Launch} {g : j_G} {b n : Nat} {P : j_R} {F : Nat} (hF : j_Fx 0 260 P) (hn : 260 ≤ n) {x1 : Int32} {x2 : Int32} {I : j_M} {r : Int32 × j_M}  (h : f_Sk_add F x1 x2 I = some r) : j_Met l g b n P 0 jy_Sk_add jb_Sk_add 4 (some .int) [.ref (b + 38), .int x1, .int x2] I r.2 (some (.int r.1)) := by
  unfold f_Sk_add at h
  refine j_enter (plainFor_of_name (by decide)) (Nat.le_of_ble_eq_true rfl) [some (.ref (b + 38)), some (.int x1), some (.int x2), none] rfl ?_
  intro p e R s m args below meth c X0 hnm hRc hRs
  have X : j_X p R s m args meth c g b 0 jb_Sk_add 4 "PleasureGarden$Sky" (some .int) := X0
  clear X0
  refine j_iload_n X jd_Sk_add_0 rfl rfl ?_
  refine j_istore_n (lv' := [some (.ref (b + 38)), some (.int x1), some (.int x2), some (.int x1)]) X jd_Sk_add_1 rfl (by decide) rfl ?_
  refine j_sub [true, false, true, true] (lv' := [some (.ref (b + 38)), none, some (.int x2), some (.int x1)]) rfl ?_
  exact k_Sk_add_2 hF hn X h
-- PleasureGarden$Sky.clear()V
theorem jd_Sk_clear_0 : decode jb_Sk_clear 0 = .ok (.aload_n 0, 1) := by decide +kernel
theorem jd_Sk_clear_1 : decode jb_Sk_clear 1 = .ok (.iconst 0, 1) := by decide +kernel
theorem jd_Sk_clear_2 : decode jb_Sk_clear 2 = .ok (.putfield 9, 3) := by decide +kernel
theorem jd_Sk_clear_5 : decode jb_Sk_clear 5 = .ok (.iconst 0, 1) := by decide +kernel
theorem jd_Sk_clear_6 : decode jb_Sk_clear 6 = .ok (.istore_n 1, 1) := by decide +kernel
theorem jd_Sk_clear_7 : decode jb_Sk_clear 7 = .ok (.iload_n 1, 1) := by decide +kernel
theorem jd_Sk_clear_8 : decode jb_Sk_clear 8 = .ok (.sipush 480, 3) := by decide +kernel
theorem jd_Sk_clear_11 : decode jb_Sk_clear 11 = .ok (.if_icmp .ge 16, 3) := by decide +kernel
theorem jd_Sk_clear_14 : decode jb_Sk_clear 14 = .ok (.aload_n 0, 1) := by decide +kernel
theorem jd_Sk_clear_15 : decode jb_Sk_clear 15 = .ok (.getfield 15, 3) := by decide +kernel
theorem jd_Sk_clear_18 : decode jb_Sk_clear 18 = .ok (.iload_n 1, 1) := by decide +kernel
theorem jd_Sk_clear_19 : decode jb_Sk_clear 19 = .ok (.iconst 0, 1) := by decide +kernel
theorem jd_Sk_clear_20 : decode jb_Sk_clear 20 = .ok (.bastore, 1) := by decide +kernel
theorem jd_Sk_clear_21 : decode jb_Sk_clear 21 = .ok (.iinc 1 1, 3) := by decide +kernel
theorem jd_Sk_clear_24 : decode jb_Sk_clear 24 = .ok (.goto (-17), 3) := by decide +kernel
theorem jd_Sk_clear_27 : decode jb_Sk_clear 27 = .ok (.return_, 1) := by decide +kernel
def f_Sk_clear_7b (F : Nat) (kb7 : Int32 → j_M → Option (Int32 × j_M)) (x1 : Int32) (I : j_M) : Option (Int32 × j_M) := (if 480 ≤ x1 then some (0, I) else (if j_ok x1 480 = true then j_let (j_wr I 39 (j_ix x1) (0 &&& 1)) (fun I1 => j_let (x1 + 1) (fun v2 => kb7 v2 I1)) else none))
def f_Sk_clear_7 (F : Nat)  (x1 : Int32) (I : j_M) : Option (Int32 × j_M) := j_it (fun (again : Int32 × j_M → Option (Int32 × j_M)) (q : Int32 × j_M) => f_Sk_clear_7b F  (fun x1 I => again (x1, I))  q.1 q.2) F (x1, I)
def f_Sk_clear (F : Nat)  (I : j_M) : Option (Int32 × j_M) := j_let (j_wr I 38 0 0) (fun I3 => f_Sk_clear_7 F 0 I3)
set_option maxRecDepth 100000 in
set_option maxHeartbeats 4000000 in
theorem k_Sk_clear_7b {p : Program} {l : Launch} {e : Env} {R : Room} {s : State} {m : MethodId} {args : Array Value} {below : List Frame} {meth : Method} {c : Code} {g : j_G} {b n : Nat} {P : j_R} {F : Nat} (hF : j_Fx 0 260 P) (hn : 260 ≤ n) (X : j_X p R s m args meth c g b 0 jb_Sk_clear 2 "PleasureGarden$Sky" none) {kb7 : Int32 → j_M → Option (Int32 × j_M)} (hkb7 : ∀ (x1 : Int32) (I : j_M) (r : Int32 × j_M), kb7 x1 I = some r → j_W p l e R s m args below meth c 2 g b n 0 0 (j_Qv g b n P below args s r) I P 7 [some (.ref (b + 38)), some (.int x1)] []) {x1 : Int32} {I : j_M} {r : Int32 × j_M}  (h : f_Sk_clear_7b F kb7 x1 I = some r) : j_W p l e R s m args below meth c 2 g b n 0 0 (j_Qv g b n P below args s r) I P 7 [some (.ref (b + 38)), some (.int x1)] [] := by
  unfold f_Sk_clear_7b at h
  refine j_iload_n X jd_Sk_clear_7 rfl rfl ?_
  refine j_sipush (v := 480) X jd_Sk_clear_8 (by decide) ?_
  refine j_icmp_ge (tgt := 27) X jd_Sk_clear_11 rfl h (fun h => ?_) (fun h => ?_)
  · exact j_vret X rfl jd_Sk_clear_27 h
  · refine j_aload_n X jd_Sk_clear_14 rfl rfl ?_
    refine j_getr X jf_Sk_15 jk_2_1 js_38 (j_lt rfl hn) (jp_38_1 hF) jd_Sk_clear_15 ?_
    refine j_iload_n X jd_Sk_clear_18 rfl rfl ?_
    refine j_iconst (v := 0) X jd_Sk_clear_19 (by decide) ?_
    refine j_zast X js_39 (j_lt rfl hn) jd_Sk_clear_20 h (fun h => ?_)
    refine j_mem h (fun I1 h => ?_)
    obtain ⟨v2, ev2, h⟩ := j_ex h
    refine j_iinc (v := v2) (lv' := [some (.ref (b + 38)), some (.int v2)]) X jd_Sk_clear_21 rfl (by rw [ev2]; rfl) (by decide) rfl ?_
    refine j_goto (tgt := 7) X jd_Sk_clear_24 rfl ?_
    exact hkb7 _ _ _ h
set_option maxRecDepth 100000 in
set_option maxHeartbeats 4000000 in
theorem k_Sk_clear_7 {p : Program} {l : Launch} {e : Env} {R : Room} {s : State} {m : MethodId} {args : Array Value} {below : List Frame} {meth : Method} {c : Code} {g : j_G} {b n : Nat} {P : j_R} {F : Nat} (hF : j_Fx 0 260 P) (hn : 260 ≤ n) (X : j_X p R s m args meth c g b 0 jb_Sk_clear 2 "PleasureGarden$Sky" none)  {x1 : Int32} {I : j_M} {r : Int32 × j_M} (h : f_Sk_clear_7 F x1 I = some r) : j_W p l e R s m args below meth c 2 g b n 0 0 (j_Qv g b n P below args s r) I P 7 [some (.ref (b + 38)), some (.int x1)] [] := by
  refine j_loop (G := fun (q : Int32 × j_M) (r : Int32 × j_M) => j_W p l e R s m args below meth c 2 g b n 0 0 (j_Qv g b n P below args s r) q.2 P 7 [some (.ref (b + 38)), some (.int (q.1))] []) ?_ F (x1, I) r h
  intro again hrec0 q r h
  exact k_Sk_clear_7b hF hn X (fun x1 I r h => hrec0 (x1, I) r h)  h
set_option maxRecDepth 100000 in
set_option maxHeartbeats 4000000 in
theorem k_Sk_clear {l : Launch} {g : j_G} {b n : Nat} {P : j_R} {F : Nat} (hF : j_Fx 0 260 P) (hn : 260 ≤ n)  {I : j_M} {r : Int32 × j_M}  (h : f_Sk_clear F I = some r) : j_Met l g b n P 0 jy_Sk_clear jb_Sk_clear 2 none [.ref (b + 38)] I r.2 none := by
  unfold f_Sk_clear at h
  refine j_enter (plainFor_of_name (by decide)) (Nat.le_of_ble_eq_true rfl) [some (.ref (b + 38)), none] rfl ?_
  intro p e R s m args below meth c X0 hnm hRc hRs
  have X : j_X p R s m args meth c g b 0 jb_Sk_clear 2 "PleasureGarden$Sky" none := X0
  clear X0
  refine j_aload_n X jd_Sk_clear_0 rfl rfl ?_
  refine j_iconst (v := 0) X jd_Sk_clear_1 (by decide) ?_
  refine j_puti X jt_Sk jto_Sk jn_Sk jf_Sk_9 jk_2_0 js_38 (j_lt rfl hn) (Or.inl rfl) rfl jd_Sk_clear_2 ?_
  refine j_mem h (fun I3 h => ?_)
  refine j_iconst (v := 0) X jd_Sk_clear_5 (by decide) ?_
  refine j_istore_n (lv' := [some (.ref (b + 38)), some (.int 0)]) X jd_Sk_clear_6 rfl (by decide) rfl ?_
  exact k_Sk_clear_7 hF hn X h
-- PleasureGarden$Party.begin(III)V
theorem jd_Pa_begin_0 : decode jb_Pa_begin 0 = .ok (.aload_n 0, 1) := by decide +kernel
theorem jd_Pa_begin_1 : decode jb_Pa_begin 1 = .ok (.iload_n 1, 1) := by decide +kernel
theorem jd_Pa_begin_2 : decode jb_Pa_begin 2 = .ok (.putfield 15, 3) := by decide +kernel
theorem jd_Pa_begin_5 : decode jb_Pa_begin 5 = .ok (.aload_n 0, 1) := by decide +kernel
theorem jd_Pa_begin_6 : decode jb_Pa_begin 6 = .ok (.iload_n 2, 1) := by decide +kernel
theorem jd_Pa_begin_7 : decode jb_Pa_begin 7 = .ok (.putfield 9, 3) := by decide +kernel
theorem jd_Pa_begin_10 : decode jb_Pa_begin 10 = .ok (.aload_n 0, 1) := by decide +kernel
theorem jd_Pa_begin_11 : decode jb_Pa_begin 11 = .ok (.iload_n 3, 1) := by decide +kernel
theorem jd_Pa_begin_12 : decode jb_Pa_begin 12 = .ok (.putfield 41, 3) := by decide +kernel
theorem jd_Pa_begin_15 : decode jb_Pa_begin 15 = .ok (.aload_n 0, 1) := by decide +kernel
theorem jd_Pa_begin_16 : decode jb_Pa_begin 16 = .ok (.iconst (-1), 1) := by decide +kernel
theorem jd_Pa_begin_17 : decode jb_Pa_begin 17 = .ok (.putfield 29, 3) := by decide +kernel
theorem jd_Pa_begin_20 : decode jb_Pa_begin 20 = .ok (.aload_n 0, 1) := by decide +kernel
theorem jd_Pa_begin_21 : decode jb_Pa_begin 21 = .ok (.iconst 0, 1) := by decide +kernel
theorem jd_Pa_begin_22 : decode jb_Pa_begin 22 = .ok (.putfield 32, 3) := by decide +kernel
theorem jd_Pa_begin_25 : decode jb_Pa_begin 25 = .ok (.aload_n 0, 1) := by decide +kernel
theorem jd_Pa_begin_26 : decode jb_Pa_begin 26 = .ok (.iconst 0, 1) := by decide +kernel
theorem jd_Pa_begin_27 : decode jb_Pa_begin 27 = .ok (.putfield 35, 3) := by decide +kernel
theorem jd_Pa_begin_30 : decode jb_Pa_begin 30 = .ok (.aload_n 0, 1) := by decide +kernel
theorem jd_Pa_begin_31 : decode jb_Pa_begin 31 = .ok (.iconst 0, 1) := by decide +kernel
theorem jd_Pa_begin_32 : decode jb_Pa_begin 32 = .ok (.putfield 38, 3) := by decide +kernel
theorem jd_Pa_begin_35 : decode jb_Pa_begin 35 = .ok (.return_, 1) := by decide +kernel
def f_Pa_begin (F : Nat) (x0 : Nat) (x1 : Int32) (x2 : Int32) (x3 : Int32) (I : j_M) : Option (Int32 × j_M) := j_let (j_wr I (43 + x0) 2 x1) (fun I1 => j_let (j_wr I1 (43 + x0) 1 x2) (fun I2 => j_let (j_wr I2 (43 + x0) 10 x3) (fun I3 => j_let (j_wr I3 (43 + x0) 6 (-1)) (fun I4 => j_let (j_wr I4 (43 + x0) 7 0) (fun I5 => j_let (j_wr I5 (43 + x0) 8 0) (fun I6 => j_let (j_wr I6 (43 + x0) 9 0) (fun I7 => some (0, I7))))))))
set_option maxRecDepth 100000 in
set_option maxHeartbeats 4000000 in
theorem k_Pa_begin {l : Launch} {g : j_G} {b n : Nat} {P : j_R} {F : Nat} (hF : j_Fx 0 260 P) (hn : 260 ≤ n) {x0 : Nat} {x1 : Int32} {x2 : Int32} {x3 : Int32} {I : j_M} {r : Int32 × j_M} (hx0 : x0 < 100) (h : f_Pa_begin F x0 x1 x2 x3 I = some r) : j_Met l g b n P 0 jy_Pa_begin jb_Pa_begin 4 none [.ref (b + (43 + x0)), .int x1, .int x2, .int x3] I r.2 none := by
  unfold f_Pa_begin at h
  refine j_enter (plainFor_of_name (by decide)) (Nat.le_of_ble_eq_true rfl) [some (.ref (b + (43 + x0))), some (.int x1), some (.int x2), some (.int x3)] rfl ?_
  intro p e R s m args below meth c X0 hnm hRc hRs
  have X : j_X p R s m args meth c g b 0 jb_Pa_begin 4 "PleasureGarden$Party" none := X0
  clear X0
  refine j_aload_n X jd_Pa_begin_0 rfl rfl ?_
  refine j_iload_n X jd_Pa_begin_1 rfl rfl ?_
  refine j_puti X jt_Pa jto_Pa jn_Pa jf_Pa_15 jk_4_2 (jsp_43 hx0) (j_ltq hx0 rfl hn) (Or.inl rfl) rfl jd_Pa_begin_2 ?_
  refine j_mem h (fun I1 h => ?_)
  refine j_aload_n X jd_Pa_begin_5 rfl rfl ?_
  refine j_iload_n X jd_Pa_begin_6 rfl rfl ?_
  refine j_puti X jt_Pa jto_Pa jn_Pa jf_Pa_9 jk_4_1 (jsp_43 hx0) (j_ltq hx0 rfl hn) (Or.inl rfl) rfl jd_Pa_begin_7 ?_
  refine j_mem h (fun I2 h => ?_)
  refine j_aload_n X jd_Pa_begin_10 rfl rfl ?_
  refine j_iload_n X jd_Pa_begin_11 rfl rfl ?_
  refine j_puti X jt_Pa jto_Pa jn_Pa jf_Pa_41 jk_4_10 (jsp_43 hx0) (j_ltq hx0 rfl hn) (Or.inl rfl) rfl jd_Pa_begin_12 ?_
  refine j_mem h (fun I3 h => ?_)
  refine j_aload_n X jd_Pa_begin_15 rfl rfl ?_
  refine j_iconst (v := (-1)) X jd_Pa_begin_16 (by decide) ?_
  refine j_puti X jt_Pa jto_Pa jn_Pa jf_Pa_29 jk_4_6 (jsp_43 hx0) (j_ltq hx0 rfl hn) (Or.inl rfl) rfl jd_Pa_begin_17 ?_
  refine j_mem h (fun I4 h => ?_)
  refine j_aload_n X jd_Pa_begin_20 rfl rfl ?_
  refine j_iconst (v := 0) X jd_Pa_begin_21 (by decide) ?_
  refine j_puti X jt_Pa jto_Pa jn_Pa jf_Pa_32 jk_4_7 (jsp_43 hx0) (j_ltq hx0 rfl hn) (Or.inl rfl) rfl jd_Pa_begin_22 ?_
  refine j_mem h (fun I5 h => ?_)
  refine j_aload_n X jd_Pa_begin_25 rfl rfl ?_
  refine j_iconst (v := 0) X jd_Pa_begin_26 (by decide) ?_
  refine j_puti X jt_Pa jto_Pa jn_Pa jf_Pa_35 jk_4_8 (jsp_43 hx0) (j_ltq hx0 rfl hn) (Or.inl rfl) rfl jd_Pa_begin_27 ?_
  refine j_mem h (fun I6 h => ?_)
  refine j_aload_n X jd_Pa_begin_30 rfl rfl ?_
  refine j_iconst (v := 0) X jd_Pa_begin_31 (by decide) ?_
  refine j_puti X jt_Pa jto_Pa jn_Pa jf_Pa_38 jk_4_9 (jsp_43 hx0) (j_ltq hx0 rfl hn) (Or.inl rfl) rfl jd_Pa_begin_32 ?_
  refine j_mem h (fun I7 h => ?_)
  exact j_vret X rfl jd_Pa_begin_35 h
-- PleasureGarden$Party.isIn()Z
theorem jd_Pa_isIn_0 : decode jb_Pa_isIn 0 = .ok (.aload_n 0, 1) := by decide +kernel
theorem jd_Pa_isIn_1 : decode jb_Pa_isIn 1 = .ok (.getfield 18, 3) := by decide +kernel
theorem jd_Pa_isIn_4 : decode jb_Pa_isIn 4 = .ok (.iconst 2, 1) := by decide +kernel
theorem jd_Pa_isIn_5 : decode jb_Pa_isIn 5 = .ok (.if_icmp .eq 7, 3) := by decide +kernel
theorem jd_Pa_isIn_8 : decode jb_Pa_isIn 8 = .ok (.iconst 1, 1) := by decide +kernel
theorem jd_Pa_isIn_9 : decode jb_Pa_isIn 9 = .ok (.goto 4, 3) := by decide +kernel
theorem jd_Pa_isIn_12 : decode jb_Pa_isIn 12 = .ok (.iconst 0, 1) := by decide +kernel
theorem jd_Pa_isIn_13 : decode jb_Pa_isIn 13 = .ok (.ireturn, 1) := by decide +kernel
def f_Pa_isIn (F : Nat) (x0 : Nat) (I : j_M) : Option (Int32 × j_M) := (if (I (43 + x0) 3) = 2 then some (0, I) else some (1, I))
set_option maxRecDepth 100000 in
set_option maxHeartbeats 4000000 in
theorem k_Pa_isIn {l : Launch} {g : j_G} {b n : Nat} {P : j_R} {F : Nat} (hF : j_Fx 0 260 P) (hn : 260 ≤ n) {x0 : Nat} {I : j_M} {r : Int32 × j_M} (hx0 : x0 < 100) (h : f_Pa_isIn F x0 I = some r) : j_Met l g b n P 0 jy_Pa_isIn jb_Pa_isIn 1 (some .boolean) [.ref (b + (43 + x0))] I r.2 (some (.int r.1)) := by
  unfold f_Pa_isIn at h
  refine j_enter (plainFor_of_name (by decide)) (Nat.le_of_ble_eq_true rfl) [some (.ref (b + (43 + x0)))] rfl ?_
  intro p e R s m args below meth c X0 hnm hRc hRs
  have X : j_X p R s m args meth c g b 0 jb_Pa_isIn 1 "PleasureGarden$Party" (some .boolean) := X0
  clear X0
  refine j_aload_n X jd_Pa_isIn_0 rfl rfl ?_
  refine j_get X jf_Pa_18 jk_4_3 (jsp_43 hx0) (j_ltq hx0 rfl hn) jd_Pa_isIn_1 ?_
  refine j_iconst (v := 2) X jd_Pa_isIn_4 (by decide) ?_
  refine j_icmp_eq (tgt := 12) X jd_Pa_isIn_5 rfl h (fun h => ?_) (fun h => ?_)
  · refine j_iconst (v := 0) X jd_Pa_isIn_12 (by decide) ?_
    exact j_zret X rfl (by decide) jd_Pa_isIn_13 h
  · refine j_iconst (v := 1) X jd_Pa_isIn_8 (by decide) ?_
    refine j_goto (tgt := 13) X jd_Pa_isIn_9 rfl ?_
    exact j_zret X rfl (by decide) jd_Pa_isIn_13 h
-- PleasureGarden$Party.tell(I)I
theorem jd_Pa_tell_0 : decode jb_Pa_tell 0 = .ok (.iload_n 1, 1) := by decide +kernel
theorem jd_Pa_tell_1 : decode jb_Pa_tell 1 = .ok (.tableswitch 105 0 9 #[55, 60, 65, 70, 75, 80, 85, 90, 95, 100], 55) := by decide +kernel
theorem jd_Pa_tell_56 : decode jb_Pa_tell 56 = .ok (.aload_n 0, 1) := by decide +kernel
theorem jd_Pa_tell_57 : decode jb_Pa_tell 57 = .ok (.getfield 9, 3) := by decide +kernel
theorem jd_Pa_tell_60 : decode jb_Pa_tell 60 = .ok (.ireturn, 1) := by decide +kernel
theorem jd_Pa_tell_61 : decode jb_Pa_tell 61 = .ok (.aload_n 0, 1) := by decide +kernel
theorem jd_Pa_tell_62 : decode jb_Pa_tell 62 = .ok (.getfield 15, 3) := by decide +kernel
theorem jd_Pa_tell_65 : decode jb_Pa_tell 65 = .ok (.ireturn, 1) := by decide +kernel
theorem jd_Pa_tell_66 : decode jb_Pa_tell 66 = .ok (.aload_n 0, 1) := by decide +kernel
theorem jd_Pa_tell_67 : decode jb_Pa_tell 67 = .ok (.getfield 18, 3) := by decide +kernel
theorem jd_Pa_tell_70 : decode jb_Pa_tell 70 = .ok (.ireturn, 1) := by decide +kernel
theorem jd_Pa_tell_71 : decode jb_Pa_tell 71 = .ok (.aload_n 0, 1) := by decide +kernel
theorem jd_Pa_tell_72 : decode jb_Pa_tell 72 = .ok (.getfield 21, 3) := by decide +kernel
theorem jd_Pa_tell_75 : decode jb_Pa_tell 75 = .ok (.ireturn, 1) := by decide +kernel
theorem jd_Pa_tell_76 : decode jb_Pa_tell 76 = .ok (.aload_n 0, 1) := by decide +kernel
theorem jd_Pa_tell_77 : decode jb_Pa_tell 77 = .ok (.getfield 24, 3) := by decide +kernel
theorem jd_Pa_tell_80 : decode jb_Pa_tell 80 = .ok (.ireturn, 1) := by decide +kernel
theorem jd_Pa_tell_81 : decode jb_Pa_tell 81 = .ok (.aload_n 0, 1) := by decide +kernel
theorem jd_Pa_tell_82 : decode jb_Pa_tell 82 = .ok (.getfield 29, 3) := by decide +kernel
theorem jd_Pa_tell_85 : decode jb_Pa_tell 85 = .ok (.ireturn, 1) := by decide +kernel
theorem jd_Pa_tell_86 : decode jb_Pa_tell 86 = .ok (.aload_n 0, 1) := by decide +kernel
theorem jd_Pa_tell_87 : decode jb_Pa_tell 87 = .ok (.getfield 32, 3) := by decide +kernel
theorem jd_Pa_tell_90 : decode jb_Pa_tell 90 = .ok (.ireturn, 1) := by decide +kernel
theorem jd_Pa_tell_91 : decode jb_Pa_tell 91 = .ok (.aload_n 0, 1) := by decide +kernel
theorem jd_Pa_tell_92 : decode jb_Pa_tell 92 = .ok (.getfield 35, 3) := by decide +kernel
theorem jd_Pa_tell_95 : decode jb_Pa_tell 95 = .ok (.ireturn, 1) := by decide +kernel
theorem jd_Pa_tell_96 : decode jb_Pa_tell 96 = .ok (.aload_n 0, 1) := by decide +kernel
theorem jd_Pa_tell_97 : decode jb_Pa_tell 97 = .ok (.getfield 38, 3) := by decide +kernel
theorem jd_Pa_tell_100 : decode jb_Pa_tell 100 = .ok (.ireturn, 1) := by decide +kernel
theorem jd_Pa_tell_101 : decode jb_Pa_tell 101 = .ok (.aload_n 0, 1) := by decide +kernel
theorem jd_Pa_tell_102 : decode jb_Pa_tell 102 = .ok (.getfield 41, 3) := by decide +kernel
theorem jd_Pa_tell_105 : decode jb_Pa_tell 105 = .ok (.ireturn, 1) := by decide +kernel
theorem jd_Pa_tell_106 : decode jb_Pa_tell 106 = .ok (.iconst (-1), 1) := by decide +kernel
theorem jd_Pa_tell_107 : decode jb_Pa_tell 107 = .ok (.ireturn, 1) := by decide +kernel
def f_Pa_tell (F : Nat) (x0 : Nat) (x1 : Int32) (I : j_M) : Option (Int32 × j_M) := (if x1 = 0 then some (I (43 + x0) 1, I) else (if x1 = 1 then some (I (43 + x0) 2, I) else (if x1 = 2 then some (I (43 + x0) 3, I) else (if x1 = 3 then some (I (43 + x0) 4, I) else (if x1 = 4 then some (I (43 + x0) 5, I) else (if x1 = 5 then some (I (43 + x0) 6, I) else (if x1 = 6 then some (I (43 + x0) 7, I) else (if x1 = 7 then some (I (43 + x0) 8, I) else (if x1 = 8 then some (I (43 + x0) 9, I) else (if x1 = 9 then some (I (43 + x0) 10, I) else some ((-1), I)))))))))))
set_option maxRecDepth 100000 in
set_option maxHeartbeats 4000000 in
theorem k_Pa_tell {l : Launch} {g : j_G} {b n : Nat} {P : j_R} {F : Nat} (hF : j_Fx 0 260 P) (hn : 260 ≤ n) {x0 : Nat} {x1 : Int32} {I : j_M} {r : Int32 × j_M} (hx0 : x0 < 100) (h : f_Pa_tell F x0 x1 I = some r) : j_Met l g b n P 0 jy_Pa_tell jb_Pa_tell 2 (some .int) [.ref (b + (43 + x0)), .int x1] I r.2 (some (.int r.1)) := by
  unfold f_Pa_tell at h
  refine j_enter (plainFor_of_name (by decide)) (Nat.le_of_ble_eq_true rfl) [some (.ref (b + (43 + x0))), some (.int x1)] rfl ?_
  intro p e R s m args below meth c X0 hnm hRc hRs
  have X : j_X p R s m args meth c g b 0 jb_Pa_tell 2 "PleasureGarden$Party" (some .int) := X0
  clear X0
  refine j_iload_n X jd_Pa_tell_0 rfl rfl ?_
  refine j_ite h (fun e1 h => ?_) (fun e1 h => ?_)
  · refine j_tableIn (tgt := 56) (off := 55) X jd_Pa_tell_1 e1 (by decide) (by decide) (by decide) rfl ?_
    refine j_aload_n X jd_Pa_tell_56 rfl rfl ?_
    refine j_get X jf_Pa_9 jk_4_1 (jsp_43 hx0) (j_ltq hx0 rfl hn) jd_Pa_tell_57 ?_
    exact j_iret X rfl jd_Pa_tell_60 h
  · refine j_ite h (fun e2 h => ?_) (fun e2 h => ?_)
    · refine j_tableIn (tgt := 61) (off := 60) X jd_Pa_tell_1 e2 (by decide) (by decide) (by decide) rfl ?_
      refine j_aload_n X jd_Pa_tell_61 rfl rfl ?_
      refine j_get X jf_Pa_15 jk_4_2 (jsp_43 hx0) (j_ltq hx0 rfl hn) jd_Pa_tell_62 ?_
      exact j_iret X rfl jd_Pa_tell_65 h
    · refine j_ite h (fun e3 h => ?_) (fun e3 h => ?_)
      · refine j_tableIn (tgt := 66) (off := 65) X jd_Pa_tell_1 e3 (by decide) (by decide) (by decide) rfl ?_
        refine j_aload_n X jd_Pa_tell_66 rfl rfl ?_
        refine j_get X jf_Pa_18 jk_4_3 (jsp_43 hx0) (j_ltq hx0 rfl hn) jd_Pa_tell_67 ?_
        exact j_iret X rfl jd_Pa_tell_70 h
      · refine j_ite h (fun e4 h => ?_) (fun e4 h => ?_)
        · refine j_tableIn (tgt := 71) (off := 70) X jd_Pa_tell_1 e4 (by decide) (by decide) (by decide) rfl ?_
          refine j_aload_n X jd_Pa_tell_71 rfl rfl ?_
          refine j_get X jf_Pa_21 jk_4_4 (jsp_43 hx0) (j_ltq hx0 rfl hn) jd_Pa_tell_72 ?_
          exact j_iret X rfl jd_Pa_tell_75 h
        · refine j_ite h (fun e5 h => ?_) (fun e5 h => ?_)
          · refine j_tableIn (tgt := 76) (off := 75) X jd_Pa_tell_1 e5 (by decide) (by decide) (by decide) rfl ?_
            refine j_aload_n X jd_Pa_tell_76 rfl rfl ?_
            refine j_get X jf_Pa_24 jk_4_5 (jsp_43 hx0) (j_ltq hx0 rfl hn) jd_Pa_tell_77 ?_
            exact j_iret X rfl jd_Pa_tell_80 h
          · refine j_ite h (fun e6 h => ?_) (fun e6 h => ?_)
            · refine j_tableIn (tgt := 81) (off := 80) X jd_Pa_tell_1 e6 (by decide) (by decide) (by decide) rfl ?_
              refine j_aload_n X jd_Pa_tell_81 rfl rfl ?_
              refine j_get X jf_Pa_29 jk_4_6 (jsp_43 hx0) (j_ltq hx0 rfl hn) jd_Pa_tell_82 ?_
              exact j_iret X rfl jd_Pa_tell_85 h
            · refine j_ite h (fun e7 h => ?_) (fun e7 h => ?_)
              · refine j_tableIn (tgt := 86) (off := 85) X jd_Pa_tell_1 e7 (by decide) (by decide) (by decide) rfl ?_
                refine j_aload_n X jd_Pa_tell_86 rfl rfl ?_
                refine j_get X jf_Pa_32 jk_4_7 (jsp_43 hx0) (j_ltq hx0 rfl hn) jd_Pa_tell_87 ?_
                exact j_iret X rfl jd_Pa_tell_90 h
              · refine j_ite h (fun e8 h => ?_) (fun e8 h => ?_)
                · refine j_tableIn (tgt := 91) (off := 90) X jd_Pa_tell_1 e8 (by decide) (by decide) (by decide) rfl ?_
                  refine j_aload_n X jd_Pa_tell_91 rfl rfl ?_
                  refine j_get X jf_Pa_35 jk_4_8 (jsp_43 hx0) (j_ltq hx0 rfl hn) jd_Pa_tell_92 ?_
                  exact j_iret X rfl jd_Pa_tell_95 h
                · refine j_ite h (fun e9 h => ?_) (fun e9 h => ?_)
                  · refine j_tableIn (tgt := 96) (off := 95) X jd_Pa_tell_1 e9 (by decide) (by decide) (by decide) rfl ?_
                    refine j_aload_n X jd_Pa_tell_96 rfl rfl ?_
                    refine j_get X jf_Pa_38 jk_4_9 (jsp_43 hx0) (j_ltq hx0 rfl hn) jd_Pa_tell_97 ?_
                    exact j_iret X rfl jd_Pa_tell_100 h
                  · refine j_ite h (fun e10 h => ?_) (fun e10 h => ?_)
                    · refine j_tableIn (tgt := 101) (off := 100) X jd_Pa_tell_1 e10 (by decide) (by decide) (by decide) rfl ?_
                      refine j_aload_n X jd_Pa_tell_101 rfl rfl ?_
                      refine j_get X jf_Pa_41 jk_4_10 (jsp_43 hx0) (j_ltq hx0 rfl hn) jd_Pa_tell_102 ?_
                      exact j_iret X rfl jd_Pa_tell_105 h
                    · refine j_tableDef (tgt := 106) X [0, 1, 2, 3, 4, 5, 6, 7, 8, 9] jd_Pa_tell_1 (j_allc e1 (j_allc e2 (j_allc e3 (j_allc e4 (j_allc e5 (j_allc e6 (j_allc e7 (j_allc e8 (j_allc e9 (j_allc e10 j_all0)))))))))) (by decide) (by decide) (by decide) (by decide) rfl ?_
                      refine j_iconst (v := (-1)) X jd_Pa_tell_106 (by decide) ?_
                      exact j_iret X rfl jd_Pa_tell_107 h
-- PleasureGarden$Watch.openStay(II)I
theorem jd_Wa_openStay_0 : decode jb_Wa_openStay 0 = .ok (.aload_n 0, 1) := by decide +kernel
theorem jd_Wa_openStay_1 : decode jb_Wa_openStay 1 = .ok (.getfield 15, 3) := by decide +kernel
theorem jd_Wa_openStay_4 : decode jb_Wa_openStay 4 = .ok (.sipush 1040, 3) := by decide +kernel
theorem jd_Wa_openStay_7 : decode jb_Wa_openStay 7 = .ok (.if_icmp .lt 5, 3) := by decide +kernel
theorem jd_Wa_openStay_10 : decode jb_Wa_openStay 10 = .ok (.iconst (-1), 1) := by decide +kernel
theorem jd_Wa_openStay_11 : decode jb_Wa_openStay 11 = .ok (.ireturn, 1) := by decide +kernel
theorem jd_Wa_openStay_12 : decode jb_Wa_openStay 12 = .ok (.aload_n 0, 1) := by decide +kernel
theorem jd_Wa_openStay_13 : decode jb_Wa_openStay 13 = .ok (.getfield 18, 3) := by decide +kernel
theorem jd_Wa_openStay_16 : decode jb_Wa_openStay 16 = .ok (.aload_n 0, 1) := by decide +kernel
theorem jd_Wa_openStay_17 : decode jb_Wa_openStay 17 = .ok (.getfield 15, 3) := by decide +kernel
theorem jd_Wa_openStay_20 : decode jb_Wa_openStay 20 = .ok (.iload_n 1, 1) := by decide +kernel
theorem jd_Wa_openStay_21 : decode jb_Wa_openStay 21 = .ok (.iastore, 1) := by decide +kernel
theorem jd_Wa_openStay_22 : decode jb_Wa_openStay 22 = .ok (.aload_n 0, 1) := by decide +kernel
theorem jd_Wa_openStay_23 : decode jb_Wa_openStay 23 = .ok (.getfield 22, 3) := by decide +kernel
theorem jd_Wa_openStay_26 : decode jb_Wa_openStay 26 = .ok (.aload_n 0, 1) := by decide +kernel
theorem jd_Wa_openStay_27 : decode jb_Wa_openStay 27 = .ok (.getfield 15, 3) := by decide +kernel
theorem jd_Wa_openStay_30 : decode jb_Wa_openStay 30 = .ok (.iload_n 2, 1) := by decide +kernel
theorem jd_Wa_openStay_31 : decode jb_Wa_openStay 31 = .ok (.iastore, 1) := by decide +kernel
theorem jd_Wa_openStay_32 : decode jb_Wa_openStay 32 = .ok (.aload_n 0, 1) := by decide +kernel
theorem jd_Wa_openStay_33 : decode jb_Wa_openStay 33 = .ok (.getfield 25, 3) := by decide +kernel
theorem jd_Wa_openStay_36 : decode jb_Wa_openStay 36 = .ok (.aload_n 0, 1) := by decide +kernel
theorem jd_Wa_openStay_37 : decode jb_Wa_openStay 37 = .ok (.getfield 15, 3) := by decide +kernel
theorem jd_Wa_openStay_40 : decode jb_Wa_openStay 40 = .ok (.aload_n 0, 1) := by decide +kernel
theorem jd_Wa_openStay_41 : decode jb_Wa_openStay 41 = .ok (.getfield 9, 3) := by decide +kernel
theorem jd_Wa_openStay_44 : decode jb_Wa_openStay 44 = .ok (.iastore, 1) := by decide +kernel
theorem jd_Wa_openStay_45 : decode jb_Wa_openStay 45 = .ok (.aload_n 0, 1) := by decide +kernel
theorem jd_Wa_openStay_46 : decode jb_Wa_openStay 46 = .ok (.getfield 28, 3) := by decide +kernel
theorem jd_Wa_openStay_49 : decode jb_Wa_openStay 49 = .ok (.aload_n 0, 1) := by decide +kernel
theorem jd_Wa_openStay_50 : decode jb_Wa_openStay 50 = .ok (.getfield 15, 3) := by decide +kernel
theorem jd_Wa_openStay_53 : decode jb_Wa_openStay 53 = .ok (.sipush 480, 3) := by decide +kernel
theorem jd_Wa_openStay_56 : decode jb_Wa_openStay 56 = .ok (.iastore, 1) := by decide +kernel
theorem jd_Wa_openStay_57 : decode jb_Wa_openStay 57 = .ok (.aload_n 0, 1) := by decide +kernel
theorem jd_Wa_openStay_58 : decode jb_Wa_openStay 58 = .ok (.dup, 1) := by decide +kernel
theorem jd_Wa_openStay_59 : decode jb_Wa_openStay 59 = .ok (.getfield 15, 3) := by decide +kernel
theorem jd_Wa_openStay_62 : decode jb_Wa_openStay 62 = .ok (.iconst 1, 1) := by decide +kernel
theorem jd_Wa_openStay_63 : decode jb_Wa_openStay 63 = .ok (.iadd, 1) := by decide +kernel
theorem jd_Wa_openStay_64 : decode jb_Wa_openStay 64 = .ok (.putfield 15, 3) := by decide +kernel
theorem jd_Wa_openStay_67 : decode jb_Wa_openStay 67 = .ok (.aload_n 0, 1) := by decide +kernel
theorem jd_Wa_openStay_68 : decode jb_Wa_openStay 68 = .ok (.getfield 15, 3) := by decide +kernel
theorem jd_Wa_openStay_71 : decode jb_Wa_openStay 71 = .ok (.iconst 1, 1) := by decide +kernel
theorem jd_Wa_openStay_72 : decode jb_Wa_openStay 72 = .ok (.isub, 1) := by decide +kernel
theorem jd_Wa_openStay_73 : decode jb_Wa_openStay 73 = .ok (.ireturn, 1) := by decide +kernel
def f_Wa_openStay (F : Nat) (x1 : Int32) (x2 : Int32) (I : j_M) : Option (Int32 × j_M) := (if (I 143 1) < 1040 then (if j_ok (I 143 1) 1040 = true then j_let (j_wr I 144 (j_ix (I 143 1)) x1) (fun I1 => (if j_ok (I1 143 1) 1040 = true then j_let (j_wr I1 145 (j_ix (I1 143 1)) x2) (fun I2 => (if j_ok (I2 143 1) 1040 = true then j_let (j_wr I2 146 (j_ix (I2 143 1)) (I2 143 0)) (fun I3 => (if j_ok (I3 143 1) 1040 = true then j_let (j_wr I3 147 (j_ix (I3 143 1)) 480) (fun I4 => j_let (j_wr I4 143 1 ((I4 143 1) + 1)) (fun I5 => some ((I5 143 1) - 1, I5))) else none)) else none)) else none)) else none) else some ((-1), I))
set_option maxRecDepth 100000 in
set_option maxHeartbeats 4000000 in
theorem k_Wa_openStay {l : Launch} {g : j_G} {b n : Nat} {P : j_R} {F : Nat} (hF : j_Fx 0 260 P) (hn : 260 ≤ n) {x1 : Int32} {x2 : Int32} {I : j_M} {r : Int32 × j_M}  (h : f_Wa_openStay F x1 x2 I = some r) : j_Met l g b n P 0 jy_Wa_openStay jb_Wa_openStay 3 (some .int) [.ref (b + 143), .int x1, .int x2] I r.2 (some (.int r.1)) := by
  unfold f_Wa_openStay at h
  refine j_enter (plainFor_of_name (by decide)) (Nat.le_of_ble_eq_true rfl) [some (.ref (b + 143)), some (.int x1), some (.int x2)] rfl ?_
  intro p e R s m args below meth c X0 hnm hRc hRs
  have X : j_X p R s m args meth c g b 0 jb_Wa_openStay 3 "PleasureGarden$Watch" (some .int) := X0
  clear X0
  refine j_aload_n X jd_Wa_openStay_0 rfl rfl ?_
  refine j_get X jf_Wa_15 jk_5_1 js_143 (j_lt rfl hn) jd_Wa_openStay_1 ?_
  refine j_sipush (v := 1040) X jd_Wa_openStay_4 (by decide) ?_
  refine j_icmp_lt (tgt := 12) X jd_Wa_openStay_7 rfl h (fun h => ?_) (fun h => ?_)
  · refine j_aload_n X jd_Wa_openStay_12 rfl rfl ?_
    refine j_getr X jf_Wa_18 jk_5_2 js_143 (j_lt rfl hn) (jp_143_2 hF) jd_Wa_openStay_13 ?_
    refine j_aload_n X jd_Wa_openStay_16 rfl rfl ?_
    refine j_get X jf_Wa_15 jk_5_1 js_143 (j_lt rfl hn) jd_Wa_openStay_17 ?_
    refine j_iload_n X jd_Wa_openStay_20 rfl rfl ?_
    refine j_iast X js_144 (j_lt rfl hn) jd_Wa_openStay_21 h (fun h => ?_)
    refine j_mem h (fun I1 h => ?_)
    refine j_aload_n X jd_Wa_openStay_22 rfl rfl ?_
    refine j_getr X jf_Wa_22 jk_5_3 js_143 (j_lt rfl hn) (jp_143_3 hF) jd_Wa_openStay_23 ?_
    refine j_aload_n X jd_Wa_openStay_26 rfl rfl ?_
    refine j_get X jf_Wa_15 jk_5_1 js_143 (j_lt rfl hn) jd_Wa_openStay_27 ?_
    refine j_iload_n X jd_Wa_openStay_30 rfl rfl ?_
    refine j_iast X js_145 (j_lt rfl hn) jd_Wa_openStay_31 h (fun h => ?_)
    refine j_mem h (fun I2 h => ?_)
    refine j_aload_n X jd_Wa_openStay_32 rfl rfl ?_
    refine j_getr X jf_Wa_25 jk_5_4 js_143 (j_lt rfl hn) (jp_143_4 hF) jd_Wa_openStay_33 ?_
    refine j_aload_n X jd_Wa_openStay_36 rfl rfl ?_
    refine j_get X jf_Wa_15 jk_5_1 js_143 (j_lt rfl hn) jd_Wa_openStay_37 ?_
    refine j_aload_n X jd_Wa_openStay_40 rfl rfl ?_
    refine j_get X jf_Wa_9 jk_5_0 js_143 (j_lt rfl hn) jd_Wa_openStay_41 ?_
    refine j_iast X js_146 (j_lt rfl hn) jd_Wa_openStay_44 h (fun h => ?_)
    refine j_mem h (fun I3 h => ?_)
    refine j_aload_n X jd_Wa_openStay_45 rfl rfl ?_
    refine j_getr X jf_Wa_28 jk_5_5 js_143 (j_lt rfl hn) (jp_143_5 hF) jd_Wa_openStay_46 ?_
    refine j_aload_n X jd_Wa_openStay_49 rfl rfl ?_
    refine j_get X jf_Wa_15 jk_5_1 js_143 (j_lt rfl hn) jd_Wa_openStay_50 ?_
    refine j_sipush (v := 480) X jd_Wa_openStay_53 (by decide) ?_
    refine j_iast X js_147 (j_lt rfl hn) jd_Wa_openStay_56 h (fun h => ?_)
    refine j_mem h (fun I4 h => ?_)
    refine j_aload_n X jd_Wa_openStay_57 rfl rfl ?_
    refine j_dup X jd_Wa_openStay_58 rfl ?_
    refine j_get X jf_Wa_15 jk_5_1 js_143 (j_lt rfl hn) jd_Wa_openStay_59 ?_
    refine j_iconst (v := 1) X jd_Wa_openStay_62 (by decide) ?_
    refine j_iadd X jd_Wa_openStay_63 ?_
    refine j_puti X jt_Wa jto_Wa jn_Wa jf_Wa_15 jk_5_1 js_143 (j_lt rfl hn) (Or.inl rfl) rfl jd_Wa_openStay_64 ?_
    refine j_mem h (fun I5 h => ?_)
    refine j_aload_n X jd_Wa_openStay_67 rfl rfl ?_
    refine j_get X jf_Wa_15 jk_5_1 js_143 (j_lt rfl hn) jd_Wa_openStay_68 ?_
    refine j_iconst (v := 1) X jd_Wa_openStay_71 (by decide) ?_
    refine j_isub X jd_Wa_openStay_72 ?_
    exact j_iret X rfl jd_Wa_openStay_73 h
  · refine j_iconst (v := (-1)) X jd_Wa_openStay_10 (by decide) ?_
    exact j_iret X rfl jd_Wa_openStay_11 h
-- PleasureGarden$Watch.endStay(I)V
theorem jd_Wa_endStay_0 : decode jb_Wa_endStay 0 = .ok (.iload_n 1, 1) := by decide +kernel
theorem jd_Wa_endStay_1 : decode jb_Wa_endStay 1 = .ok (.ifCond .lt 21, 3) := by decide +kernel
theorem jd_Wa_endStay_4 : decode jb_Wa_endStay 4 = .ok (.iload_n 1, 1) := by decide +kernel
theorem jd_Wa_endStay_5 : decode jb_Wa_endStay 5 = .ok (.aload_n 0, 1) := by decide +kernel
theorem jd_Wa_endStay_6 : decode jb_Wa_endStay 6 = .ok (.getfield 15, 3) := by decide +kernel
theorem jd_Wa_endStay_9 : decode jb_Wa_endStay 9 = .ok (.if_icmp .ge 13, 3) := by decide +kernel
theorem jd_Wa_endStay_12 : decode jb_Wa_endStay 12 = .ok (.aload_n 0, 1) := by decide +kernel
theorem jd_Wa_endStay_13 : decode jb_Wa_endStay 13 = .ok (.getfield 28, 3) := by decide +kernel
theorem jd_Wa_endStay_16 : decode jb_Wa_endStay 16 = .ok (.iload_n 1, 1) := by decide +kernel
theorem jd_Wa_endStay_17 : decode jb_Wa_endStay 17 = .ok (.aload_n 0, 1) := by decide +kernel
theorem jd_Wa_endStay_18 : decode jb_Wa_endStay 18 = .ok (.getfield 9, 3) := by decide +kernel
theorem jd_Wa_endStay_21 : decode jb_Wa_endStay 21 = .ok (.iastore, 1) := by decide +kernel
theorem jd_Wa_endStay_22 : decode jb_Wa_endStay 22 = .ok (.return_, 1) := by decide +kernel
def f_Wa_endStay (F : Nat) (x1 : Int32) (I : j_M) : Option (Int32 × j_M) := (if x1 < 0 then some (0, I) else (if (I 143 1) ≤ x1 then some (0, I) else (if j_ok x1 1040 = true then j_let (j_wr I 147 (j_ix x1) (I 143 0)) (fun I1 => some (0, I1)) else none)))
set_option maxRecDepth 100000 in
set_option maxHeartbeats 4000000 in
theorem k_Wa_endStay {l : Launch} {g : j_G} {b n : Nat} {P : j_R} {F : Nat} (hF : j_Fx 0 260 P) (hn : 260 ≤ n) {x1 : Int32} {I : j_M} {r : Int32 × j_M}  (h : f_Wa_endStay F x1 I = some r) : j_Met l g b n P 0 jy_Wa_endStay jb_Wa_endStay 2 none [.ref (b + 143), .int x1] I r.2 none := by
  unfold f_Wa_endStay at h
  refine j_enter (plainFor_of_name (by decide)) (Nat.le_of_ble_eq_true rfl) [some (.ref (b + 143)), some (.int x1)] rfl ?_
  intro p e R s m args below meth c X0 hnm hRc hRs
  have X : j_X p R s m args meth c g b 0 jb_Wa_endStay 2 "PleasureGarden$Watch" none := X0
  clear X0
  refine j_iload_n X jd_Wa_endStay_0 rfl rfl ?_
  refine j_if_lt (tgt := 22) X jd_Wa_endStay_1 rfl h (fun h => ?_) (fun h => ?_)
  · exact j_vret X rfl jd_Wa_endStay_22 h
  · refine j_iload_n X jd_Wa_endStay_4 rfl rfl ?_
    refine j_aload_n X jd_Wa_endStay_5 rfl rfl ?_
    refine j_get X jf_Wa_15 jk_5_1 js_143 (j_lt rfl hn) jd_Wa_endStay_6 ?_
    refine j_icmp_ge (tgt := 22) X jd_Wa_endStay_9 rfl h (fun h => ?_) (fun h => ?_)
    · exact j_vret X rfl jd_Wa_endStay_22 h
    · refine j_aload_n X jd_Wa_endStay_12 rfl rfl ?_
      refine j_getr X jf_Wa_28 jk_5_5 js_143 (j_lt rfl hn) (jp_143_5 hF) jd_Wa_endStay_13 ?_
      refine j_iload_n X jd_Wa_endStay_16 rfl rfl ?_
      refine j_aload_n X jd_Wa_endStay_17 rfl rfl ?_
      refine j_get X jf_Wa_9 jk_5_0 js_143 (j_lt rfl hn) jd_Wa_endStay_18 ?_
      refine j_iast X js_147 (j_lt rfl hn) jd_Wa_endStay_21 h (fun h => ?_)
      refine j_mem h (fun I1 h => ?_)
      exact j_vret X rfl jd_Wa_endStay_22 h
-- PleasureGarden$Watch.tell(II)I
theorem jd_Wa_tell_0 : decode jb_Wa_tell 0 = .ok (.aload_n 0, 1) := by decide +kernel
theorem jd_Wa_tell_1 : decode jb_Wa_tell 1 = .ok (.getfield 34, 3) := by decide +kernel
theorem jd_Wa_tell_4 : decode jb_Wa_tell 4 = .ok (.aload_n 0, 1) := by decide +kernel
theorem jd_Wa_tell_5 : decode jb_Wa_tell 5 = .ok (.getfield 31, 3) := by decide +kernel
theorem jd_Wa_tell_8 : decode jb_Wa_tell 8 = .ok (.iload_n 1, 1) := by decide +kernel
theorem jd_Wa_tell_9 : decode jb_Wa_tell 9 = .ok (.iastore, 1) := by decide +kernel
theorem jd_Wa_tell_10 : decode jb_Wa_tell 10 = .ok (.aload_n 0, 1) := by decide +kernel
theorem jd_Wa_tell_11 : decode jb_Wa_tell 11 = .ok (.getfield 37, 3) := by decide +kernel
theorem jd_Wa_tell_14 : decode jb_Wa_tell 14 = .ok (.aload_n 0, 1) := by decide +kernel
theorem jd_Wa_tell_15 : decode jb_Wa_tell 15 = .ok (.getfield 31, 3) := by decide +kernel
theorem jd_Wa_tell_18 : decode jb_Wa_tell 18 = .ok (.iload_n 2, 1) := by decide +kernel
theorem jd_Wa_tell_19 : decode jb_Wa_tell 19 = .ok (.iastore, 1) := by decide +kernel
theorem jd_Wa_tell_20 : decode jb_Wa_tell 20 = .ok (.aload_n 0, 1) := by decide +kernel
theorem jd_Wa_tell_21 : decode jb_Wa_tell 21 = .ok (.dup, 1) := by decide +kernel
theorem jd_Wa_tell_22 : decode jb_Wa_tell 22 = .ok (.getfield 31, 3) := by decide +kernel
theorem jd_Wa_tell_25 : decode jb_Wa_tell 25 = .ok (.iconst 1, 1) := by decide +kernel
theorem jd_Wa_tell_26 : decode jb_Wa_tell 26 = .ok (.iadd, 1) := by decide +kernel
theorem jd_Wa_tell_27 : decode jb_Wa_tell 27 = .ok (.putfield 31, 3) := by decide +kernel
theorem jd_Wa_tell_30 : decode jb_Wa_tell 30 = .ok (.aload_n 0, 1) := by decide +kernel
theorem jd_Wa_tell_31 : decode jb_Wa_tell 31 = .ok (.getfield 31, 3) := by decide +kernel
theorem jd_Wa_tell_34 : decode jb_Wa_tell 34 = .ok (.ireturn, 1) := by decide +kernel
def f_Wa_tell (F : Nat) (x1 : Int32) (x2 : Int32) (I : j_M) : Option (Int32 × j_M) := (if j_ok (I 143 6) 20 = true then j_let (j_wr I 148 (j_ix (I 143 6)) x1) (fun I1 => (if j_ok (I1 143 6) 20 = true then j_let (j_wr I1 149 (j_ix (I1 143 6)) x2) (fun I2 => j_let (j_wr I2 143 6 ((I2 143 6) + 1)) (fun I3 => some (I3 143 6, I3))) else none)) else none)
set_option maxRecDepth 100000 in
set_option maxHeartbeats 4000000 in
theorem k_Wa_tell {l : Launch} {g : j_G} {b n : Nat} {P : j_R} {F : Nat} (hF : j_Fx 0 260 P) (hn : 260 ≤ n) {x1 : Int32} {x2 : Int32} {I : j_M} {r : Int32 × j_M}  (h : f_Wa_tell F x1 x2 I = some r) : j_Met l g b n P 0 jy_Wa_tell jb_Wa_tell 3 (some .int) [.ref (b + 143), .int x1, .int x2] I r.2 (some (.int r.1)) := by
  unfold f_Wa_tell at h
  refine j_enter (plainFor_of_name (by decide)) (Nat.le_of_ble_eq_true rfl) [some (.ref (b + 143)), some (.int x1), some (.int x2)] rfl ?_
  intro p e R s m args below meth c X0 hnm hRc hRs
  have X : j_X p R s m args meth c g b 0 jb_Wa_tell 3 "PleasureGarden$Watch" (some .int) := X0
  clear X0
  refine j_aload_n X jd_Wa_tell_0 rfl rfl ?_
  refine j_getr X jf_Wa_34 jk_5_7 js_143 (j_lt rfl hn) (jp_143_7 hF) jd_Wa_tell_1 ?_
  refine j_aload_n X jd_Wa_tell_4 rfl rfl ?_
  refine j_get X jf_Wa_31 jk_5_6 js_143 (j_lt rfl hn) jd_Wa_tell_5 ?_
  refine j_iload_n X jd_Wa_tell_8 rfl rfl ?_
  refine j_iast X js_148 (j_lt rfl hn) jd_Wa_tell_9 h (fun h => ?_)
  refine j_mem h (fun I1 h => ?_)
  refine j_aload_n X jd_Wa_tell_10 rfl rfl ?_
  refine j_getr X jf_Wa_37 jk_5_8 js_143 (j_lt rfl hn) (jp_143_8 hF) jd_Wa_tell_11 ?_
  refine j_aload_n X jd_Wa_tell_14 rfl rfl ?_
  refine j_get X jf_Wa_31 jk_5_6 js_143 (j_lt rfl hn) jd_Wa_tell_15 ?_
  refine j_iload_n X jd_Wa_tell_18 rfl rfl ?_
  refine j_iast X js_149 (j_lt rfl hn) jd_Wa_tell_19 h (fun h => ?_)
  refine j_mem h (fun I2 h => ?_)
  refine j_aload_n X jd_Wa_tell_20 rfl rfl ?_
  refine j_dup X jd_Wa_tell_21 rfl ?_
  refine j_get X jf_Wa_31 jk_5_6 js_143 (j_lt rfl hn) jd_Wa_tell_22 ?_
  refine j_iconst (v := 1) X jd_Wa_tell_25 (by decide) ?_
  refine j_iadd X jd_Wa_tell_26 ?_
  refine j_puti X jt_Wa jto_Wa jn_Wa jf_Wa_31 jk_5_6 js_143 (j_lt rfl hn) (Or.inl rfl) rfl jd_Wa_tell_27 ?_
  refine j_mem h (fun I3 h => ?_)
  refine j_aload_n X jd_Wa_tell_30 rfl rfl ?_
  refine j_get X jf_Wa_31 jk_5_6 js_143 (j_lt rfl hn) jd_Wa_tell_31 ?_
  exact j_iret X rfl jd_Wa_tell_34 h
-- PleasureGarden$Watch.saw(II)Z
theorem jd_Wa_saw_0 : decode jb_Wa_saw 0 = .ok (.aload_n 0, 1) := by decide +kernel
theorem jd_Wa_saw_1 : decode jb_Wa_saw 1 = .ok (.getfield 34, 3) := by decide +kernel
theorem jd_Wa_saw_4 : decode jb_Wa_saw 4 = .ok (.iload_n 2, 1) := by decide +kernel
theorem jd_Wa_saw_5 : decode jb_Wa_saw 5 = .ok (.iaload, 1) := by decide +kernel
theorem jd_Wa_saw_6 : decode jb_Wa_saw 6 = .ok (.istore_n 3, 1) := by decide +kernel
theorem jd_Wa_saw_7 : decode jb_Wa_saw 7 = .ok (.aload_n 0, 1) := by decide +kernel
theorem jd_Wa_saw_8 : decode jb_Wa_saw 8 = .ok (.getfield 22, 3) := by decide +kernel
theorem jd_Wa_saw_11 : decode jb_Wa_saw 11 = .ok (.iload_n 1, 1) := by decide +kernel
theorem jd_Wa_saw_12 : decode jb_Wa_saw 12 = .ok (.iaload, 1) := by decide +kernel
theorem jd_Wa_saw_13 : decode jb_Wa_saw 13 = .ok (.aload_n 0, 1) := by decide +kernel
theorem jd_Wa_saw_14 : decode jb_Wa_saw 14 = .ok (.getfield 37, 3) := by decide +kernel
theorem jd_Wa_saw_17 : decode jb_Wa_saw 17 = .ok (.iload_n 2, 1) := by decide +kernel
theorem jd_Wa_saw_18 : decode jb_Wa_saw 18 = .ok (.iaload, 1) := by decide +kernel
theorem jd_Wa_saw_19 : decode jb_Wa_saw 19 = .ok (.if_icmp .ne 27, 3) := by decide +kernel
theorem jd_Wa_saw_22 : decode jb_Wa_saw 22 = .ok (.aload_n 0, 1) := by decide +kernel
theorem jd_Wa_saw_23 : decode jb_Wa_saw 23 = .ok (.getfield 25, 3) := by decide +kernel
theorem jd_Wa_saw_26 : decode jb_Wa_saw 26 = .ok (.iload_n 1, 1) := by decide +kernel
theorem jd_Wa_saw_27 : decode jb_Wa_saw 27 = .ok (.iaload, 1) := by decide +kernel
theorem jd_Wa_saw_28 : decode jb_Wa_saw 28 = .ok (.iload_n 3, 1) := by decide +kernel
theorem jd_Wa_saw_29 : decode jb_Wa_saw 29 = .ok (.if_icmp .gt 17, 3) := by decide +kernel
theorem jd_Wa_saw_32 : decode jb_Wa_saw 32 = .ok (.iload_n 3, 1) := by decide +kernel
theorem jd_Wa_saw_33 : decode jb_Wa_saw 33 = .ok (.aload_n 0, 1) := by decide +kernel
theorem jd_Wa_saw_34 : decode jb_Wa_saw 34 = .ok (.getfield 28, 3) := by decide +kernel
theorem jd_Wa_saw_37 : decode jb_Wa_saw 37 = .ok (.iload_n 1, 1) := by decide +kernel
theorem jd_Wa_saw_38 : decode jb_Wa_saw 38 = .ok (.iaload, 1) := by decide +kernel
theorem jd_Wa_saw_39 : decode jb_Wa_saw 39 = .ok (.if_icmp .ge 7, 3) := by decide +kernel
theorem jd_Wa_saw_42 : decode jb_Wa_saw 42 = .ok (.iconst 1, 1) := by decide +kernel
theorem jd_Wa_saw_43 : decode jb_Wa_saw 43 = .ok (.goto 4, 3) := by decide +kernel
theorem jd_Wa_saw_46 : decode jb_Wa_saw 46 = .ok (.iconst 0, 1) := by decide +kernel
theorem jd_Wa_saw_47 : decode jb_Wa_saw 47 = .ok (.ireturn, 1) := by decide +kernel
def f_Wa_saw (F : Nat) (x1 : Int32) (x2 : Int32) (I : j_M) : Option (Int32 × j_M) := (if j_ok x2 20 = true then j_let (I 148 (j_ix x2)) (fun v1 => (if j_ok x1 1040 = true then (if j_ok x2 20 = true then (if (I 145 (j_ix x1)) = (I 149 (j_ix x2)) then (if j_ok x1 1040 = true then (if v1 < (I 146 (j_ix x1)) then some (0, I) else (if j_ok x1 1040 = true then (if (I 147 (j_ix x1)) ≤ v1 then some (0, I) else some (1, I)) else none)) else none) else some (0, I)) else none) else none)) else none)
set_option maxRecDepth 100000 in
set_option maxHeartbeats 4000000 in
theorem k_Wa_saw {l : Launch} {g : j_G} {b n : Nat} {P : j_R} {F : Nat} (hF : j_Fx 0 260 P) (hn : 260 ≤ n) {x1 : Int32} {x2 : Int32} {I : j_M} {r : Int32 × j_M}  (h : f_Wa_saw F x1 x2 I = some r) : j_Met l g b n P 0 jy_Wa_saw jb_Wa_saw 4 (some .boolean) [.ref (b + 143), .int x1, .int x2] I r.2 (some (.int r.1)) := by
  unfold f_Wa_saw at h
  refine j_enter (plainFor_of_name (by decide)) (Nat.le_of_ble_eq_true rfl) [some (.ref (b + 143)), some (.int x1), some (.int x2), none] rfl ?_
  intro p e R s m args below meth c X0 hnm hRc hRs
  have X : j_X p R s m args meth c g b 0 jb_Wa_saw 4 "PleasureGarden$Watch" (some .boolean) := X0
  clear X0
  refine j_aload_n X jd_Wa_saw_0 rfl rfl ?_
  refine j_getr X jf_Wa_34 jk_5_7 js_143 (j_lt rfl hn) (jp_143_7 hF) jd_Wa_saw_1 ?_
  refine j_iload_n X jd_Wa_saw_4 rfl rfl ?_
  refine j_iald X js_148 (j_lt rfl hn) jd_Wa_saw_5 h (fun _ h => ?_)
  refine j_nm h (fun v1 h => ?_)
  refine j_istore_n (lv' := [some (.ref (b + 143)), some (.int x1), some (.int x2), some (.int v1)]) X jd_Wa_saw_6 rfl (by decide) rfl ?_
  refine j_aload_n X jd_Wa_saw_7 rfl rfl ?_
  refine j_getr X jf_Wa_22 jk_5_3 js_143 (j_lt rfl hn) (jp_143_3 hF) jd_Wa_saw_8 ?_
  refine j_iload_n X jd_Wa_saw_11 rfl rfl ?_
  refine j_iald X js_145 (j_lt rfl hn) jd_Wa_saw_12 h (fun _ h => ?_)
  refine j_aload_n X jd_Wa_saw_13 rfl rfl ?_
  refine j_getr X jf_Wa_37 jk_5_8 js_143 (j_lt rfl hn) (jp_143_8 hF) jd_Wa_saw_14 ?_
  refine j_iload_n X jd_Wa_saw_17 rfl rfl ?_
  refine j_iald X js_149 (j_lt rfl hn) jd_Wa_saw_18 h (fun _ h => ?_)
  refine j_icmp_ne (tgt := 46) X jd_Wa_saw_19 rfl h (fun h => ?_) (fun h => ?_)
  · refine j_aload_n X jd_Wa_saw_22 rfl rfl ?_
    refine j_getr X jf_Wa_25 jk_5_4 js_143 (j_lt rfl hn) (jp_143_4 hF) jd_Wa_saw_23 ?_
    refine j_iload_n X jd_Wa_saw_26 rfl rfl ?_
    refine j_iald X js_146 (j_lt rfl hn) jd_Wa_saw_27 h (fun _ h => ?_)
    refine j_iload_n X jd_Wa_saw_28 rfl rfl ?_
    refine j_icmp_gt (tgt := 46) X jd_Wa_saw_29 rfl h (fun h => ?_) (fun h => ?_)
    · refine j_iconst (v := 0) X jd_Wa_saw_46 (by decide) ?_
      exact j_zret X rfl (by decide) jd_Wa_saw_47 h
    · refine j_iload_n X jd_Wa_saw_32 rfl rfl ?_
      refine j_aload_n X jd_Wa_saw_33 rfl rfl ?_
      refine j_getr X jf_Wa_28 jk_5_5 js_143 (j_lt rfl hn) (jp_143_5 hF) jd_Wa_saw_34 ?_
      refine j_iload_n X jd_Wa_saw_37 rfl rfl ?_
      refine j_iald X js_147 (j_lt rfl hn) jd_Wa_saw_38 h (fun _ h => ?_)
      refine j_icmp_ge (tgt := 46) X jd_Wa_saw_39 rfl h (fun h => ?_) (fun h => ?_)
      · refine j_iconst (v := 0) X jd_Wa_saw_46 (by decide) ?_
        exact j_zret X rfl (by decide) jd_Wa_saw_47 h
      · refine j_iconst (v := 1) X jd_Wa_saw_42 (by decide) ?_
        refine j_goto (tgt := 47) X jd_Wa_saw_43 rfl ?_
        exact j_zret X rfl (by decide) jd_Wa_saw_47 h
  · refine j_iconst (v := 0) X jd_Wa_saw_46 (by decide) ?_
    exact j_zret X rfl (by decide) jd_Wa_saw_47 h
-- PleasureGarden$Watch.clear()V
theorem jd_Wa_clear_0 : decode jb_Wa_clear 0 = .ok (.aload_n 0, 1) := by decide +kernel
theorem jd_Wa_clear_1 : decode jb_Wa_clear 1 = .ok (.iconst 0, 1) := by decide +kernel
theorem jd_Wa_clear_2 : decode jb_Wa_clear 2 = .ok (.putfield 9, 3) := by decide +kernel
theorem jd_Wa_clear_5 : decode jb_Wa_clear 5 = .ok (.aload_n 0, 1) := by decide +kernel
theorem jd_Wa_clear_6 : decode jb_Wa_clear 6 = .ok (.iconst 0, 1) := by decide +kernel
theorem jd_Wa_clear_7 : decode jb_Wa_clear 7 = .ok (.putfield 15, 3) := by decide +kernel
theorem jd_Wa_clear_10 : decode jb_Wa_clear 10 = .ok (.aload_n 0, 1) := by decide +kernel
theorem jd_Wa_clear_11 : decode jb_Wa_clear 11 = .ok (.iconst 0, 1) := by decide +kernel
theorem jd_Wa_clear_12 : decode jb_Wa_clear 12 = .ok (.putfield 31, 3) := by decide +kernel
theorem jd_Wa_clear_15 : decode jb_Wa_clear 15 = .ok (.return_, 1) := by decide +kernel
def f_Wa_clear (F : Nat)  (I : j_M) : Option (Int32 × j_M) := j_let (j_wr I 143 0 0) (fun I1 => j_let (j_wr I1 143 1 0) (fun I2 => j_let (j_wr I2 143 6 0) (fun I3 => some (0, I3))))
set_option maxRecDepth 100000 in
set_option maxHeartbeats 4000000 in
theorem k_Wa_clear {l : Launch} {g : j_G} {b n : Nat} {P : j_R} {F : Nat} (hF : j_Fx 0 260 P) (hn : 260 ≤ n)  {I : j_M} {r : Int32 × j_M}  (h : f_Wa_clear F I = some r) : j_Met l g b n P 0 jy_Wa_clear jb_Wa_clear 1 none [.ref (b + 143)] I r.2 none := by
  unfold f_Wa_clear at h
  refine j_enter (plainFor_of_name (by decide)) (Nat.le_of_ble_eq_true rfl) [some (.ref (b + 143))] rfl ?_
  intro p e R s m args below meth c X0 hnm hRc hRs
  have X : j_X p R s m args meth c g b 0 jb_Wa_clear 1 "PleasureGarden$Watch" none := X0
  clear X0
  refine j_aload_n X jd_Wa_clear_0 rfl rfl ?_
  refine j_iconst (v := 0) X jd_Wa_clear_1 (by decide) ?_
  refine j_puti X jt_Wa jto_Wa jn_Wa jf_Wa_9 jk_5_0 js_143 (j_lt rfl hn) (Or.inl rfl) rfl jd_Wa_clear_2 ?_
  refine j_mem h (fun I1 h => ?_)
  refine j_aload_n X jd_Wa_clear_5 rfl rfl ?_
  refine j_iconst (v := 0) X jd_Wa_clear_6 (by decide) ?_
  refine j_puti X jt_Wa jto_Wa jn_Wa jf_Wa_15 jk_5_1 js_143 (j_lt rfl hn) (Or.inl rfl) rfl jd_Wa_clear_7 ?_
  refine j_mem h (fun I2 h => ?_)
  refine j_aload_n X jd_Wa_clear_10 rfl rfl ?_
  refine j_iconst (v := 0) X jd_Wa_clear_11 (by decide) ?_
  refine j_puti X jt_Wa jto_Wa jn_Wa jf_Wa_31 jk_5_6 js_143 (j_lt rfl hn) (Or.inl rfl) rfl jd_Wa_clear_12 ?_
  refine j_mem h (fun I3 h => ?_)
  exact j_vret X rfl jd_Wa_clear_15 h
-- PleasureGarden$Boxes.has(I)Z
theorem jd_Bo_has_0 : decode jb_Bo_has 0 = .ok (.iload_n 1, 1) := by decide +kernel
theorem jd_Bo_has_1 : decode jb_Bo_has 1 = .ok (.ifCond .lt 15, 3) := by decide +kernel
theorem jd_Bo_has_4 : decode jb_Bo_has 4 = .ok (.iload_n 1, 1) := by decide +kernel
theorem jd_Bo_has_5 : decode jb_Bo_has 5 = .ok (.aload_n 0, 1) := by decide +kernel
theorem jd_Bo_has_6 : decode jb_Bo_has 6 = .ok (.getfield 7, 3) := by decide +kernel
theorem jd_Bo_has_9 : decode jb_Bo_has 9 = .ok (.if_icmp .ge 7, 3) := by decide +kernel
theorem jd_Bo_has_12 : decode jb_Bo_has 12 = .ok (.iconst 1, 1) := by decide +kernel
theorem jd_Bo_has_13 : decode jb_Bo_has 13 = .ok (.goto 4, 3) := by decide +kernel
theorem jd_Bo_has_16 : decode jb_Bo_has 16 = .ok (.iconst 0, 1) := by decide +kernel
theorem jd_Bo_has_17 : decode jb_Bo_has 17 = .ok (.ireturn, 1) := by decide +kernel
def f_Bo_has (F : Nat) (x1 : Int32) (I : j_M) : Option (Int32 × j_M) := (if x1 < 0 then some (0, I) else (if (I 194 0) ≤ x1 then some (0, I) else some (1, I)))
set_option maxRecDepth 100000 in
set_option maxHeartbeats 4000000 in
theorem k_Bo_has {l : Launch} {g : j_G} {b n : Nat} {P : j_R} {F : Nat} (hF : j_Fx 0 260 P) (hn : 260 ≤ n) {x1 : Int32} {I : j_M} {r : Int32 × j_M}  (h : f_Bo_has F x1 I = some r) : j_Met l g b n P 0 jy_Bo_has jb_Bo_has 2 (some .boolean) [.ref (b + 194), .int x1] I r.2 (some (.int r.1)) := by
  unfold f_Bo_has at h
  refine j_enter (plainFor_of_name (by decide)) (Nat.le_of_ble_eq_true rfl) [some (.ref (b + 194)), some (.int x1)] rfl ?_
  intro p e R s m args below meth c X0 hnm hRc hRs
  have X : j_X p R s m args meth c g b 0 jb_Bo_has 2 "PleasureGarden$Boxes" (some .boolean) := X0
  clear X0
  refine j_iload_n X jd_Bo_has_0 rfl rfl ?_
  refine j_if_lt (tgt := 16) X jd_Bo_has_1 rfl h (fun h => ?_) (fun h => ?_)
  · refine j_iconst (v := 0) X jd_Bo_has_16 (by decide) ?_
    exact j_zret X rfl (by decide) jd_Bo_has_17 h
  · refine j_iload_n X jd_Bo_has_4 rfl rfl ?_
    refine j_aload_n X jd_Bo_has_5 rfl rfl ?_
    refine j_get X jf_Bo_7 jk_7_0 js_194 (j_lt rfl hn) jd_Bo_has_6 ?_
    refine j_icmp_ge (tgt := 16) X jd_Bo_has_9 rfl h (fun h => ?_) (fun h => ?_)
    · refine j_iconst (v := 0) X jd_Bo_has_16 (by decide) ?_
      exact j_zret X rfl (by decide) jd_Bo_has_17 h
    · refine j_iconst (v := 1) X jd_Bo_has_12 (by decide) ?_
      refine j_goto (tgt := 17) X jd_Bo_has_13 rfl ?_
      exact j_zret X rfl (by decide) jd_Bo_has_17 h
-- PleasureGarden$Boxes.add(II)I
theorem jd_Bo_add_0 : decode jb_Bo_add 0 = .ok (.aload_n 0, 1) := by decide +kernel
theorem jd_Bo_add_1 : decode jb_Bo_add 1 = .ok (.getfield 13, 3) := by decide +kernel
theorem jd_Bo_add_4 : decode jb_Bo_add 4 = .ok (.aload_n 0, 1) := by decide +kernel
theorem jd_Bo_add_5 : decode jb_Bo_add 5 = .ok (.getfield 7, 3) := by decide +kernel
theorem jd_Bo_add_8 : decode jb_Bo_add 8 = .ok (.iload_n 1, 1) := by decide +kernel
theorem jd_Bo_add_9 : decode jb_Bo_add 9 = .ok (.iastore, 1) := by decide +kernel
theorem jd_Bo_add_10 : decode jb_Bo_add 10 = .ok (.aload_n 0, 1) := by decide +kernel
theorem jd_Bo_add_11 : decode jb_Bo_add 11 = .ok (.getfield 17, 3) := by decide +kernel
theorem jd_Bo_add_14 : decode jb_Bo_add 14 = .ok (.aload_n 0, 1) := by decide +kernel
theorem jd_Bo_add_15 : decode jb_Bo_add 15 = .ok (.getfield 7, 3) := by decide +kernel
theorem jd_Bo_add_18 : decode jb_Bo_add 18 = .ok (.iload_n 2, 1) := by decide +kernel
theorem jd_Bo_add_19 : decode jb_Bo_add 19 = .ok (.iastore, 1) := by decide +kernel
theorem jd_Bo_add_20 : decode jb_Bo_add 20 = .ok (.aload_n 0, 1) := by decide +kernel
theorem jd_Bo_add_21 : decode jb_Bo_add 21 = .ok (.getfield 20, 3) := by decide +kernel
theorem jd_Bo_add_24 : decode jb_Bo_add 24 = .ok (.aload_n 0, 1) := by decide +kernel
theorem jd_Bo_add_25 : decode jb_Bo_add 25 = .ok (.getfield 7, 3) := by decide +kernel
theorem jd_Bo_add_28 : decode jb_Bo_add 28 = .ok (.iconst (-1), 1) := by decide +kernel
theorem jd_Bo_add_29 : decode jb_Bo_add 29 = .ok (.iastore, 1) := by decide +kernel
theorem jd_Bo_add_30 : decode jb_Bo_add 30 = .ok (.aload_n 0, 1) := by decide +kernel
theorem jd_Bo_add_31 : decode jb_Bo_add 31 = .ok (.dup, 1) := by decide +kernel
theorem jd_Bo_add_32 : decode jb_Bo_add 32 = .ok (.getfield 7, 3) := by decide +kernel
theorem jd_Bo_add_35 : decode jb_Bo_add 35 = .ok (.iconst 1, 1) := by decide +kernel
theorem jd_Bo_add_36 : decode jb_Bo_add 36 = .ok (.iadd, 1) := by decide +kernel
theorem jd_Bo_add_37 : decode jb_Bo_add 37 = .ok (.putfield 7, 3) := by decide +kernel
theorem jd_Bo_add_40 : decode jb_Bo_add 40 = .ok (.aload_n 0, 1) := by decide +kernel
theorem jd_Bo_add_41 : decode jb_Bo_add 41 = .ok (.getfield 7, 3) := by decide +kernel
theorem jd_Bo_add_44 : decode jb_Bo_add 44 = .ok (.iconst 1, 1) := by decide +kernel
theorem jd_Bo_add_45 : decode jb_Bo_add 45 = .ok (.isub, 1) := by decide +kernel
theorem jd_Bo_add_46 : decode jb_Bo_add 46 = .ok (.ireturn, 1) := by decide +kernel
def f_Bo_add (F : Nat) (x1 : Int32) (x2 : Int32) (I : j_M) : Option (Int32 × j_M) := (if j_ok (I 194 0) 20 = true then j_let (j_wr I 195 (j_ix (I 194 0)) x1) (fun I1 => (if j_ok (I1 194 0) 20 = true then j_let (j_wr I1 196 (j_ix (I1 194 0)) x2) (fun I2 => (if j_ok (I2 194 0) 20 = true then j_let (j_wr I2 197 (j_ix (I2 194 0)) (-1)) (fun I3 => j_let (j_wr I3 194 0 ((I3 194 0) + 1)) (fun I4 => some ((I4 194 0) - 1, I4))) else none)) else none)) else none)
set_option maxRecDepth 100000 in
set_option maxHeartbeats 4000000 in
theorem k_Bo_add {l : Launch} {g : j_G} {b n : Nat} {P : j_R} {F : Nat} (hF : j_Fx 0 260 P) (hn : 260 ≤ n) {x1 : Int32} {x2 : Int32} {I : j_M} {r : Int32 × j_M}  (h : f_Bo_add F x1 x2 I = some r) : j_Met l g b n P 0 jy_Bo_add jb_Bo_add 3 (some .int) [.ref (b + 194), .int x1, .int x2] I r.2 (some (.int r.1)) := by
  unfold f_Bo_add at h
  refine j_enter (plainFor_of_name (by decide)) (Nat.le_of_ble_eq_true rfl) [some (.ref (b + 194)), some (.int x1), some (.int x2)] rfl ?_
  intro p e R s m args below meth c X0 hnm hRc hRs
  have X : j_X p R s m args meth c g b 0 jb_Bo_add 3 "PleasureGarden$Boxes" (some .int) := X0
  clear X0
  refine j_aload_n X jd_Bo_add_0 rfl rfl ?_
  refine j_getr X jf_Bo_13 jk_7_1 js_194 (j_lt rfl hn) (jp_194_1 hF) jd_Bo_add_1 ?_
  refine j_aload_n X jd_Bo_add_4 rfl rfl ?_
  refine j_get X jf_Bo_7 jk_7_0 js_194 (j_lt rfl hn) jd_Bo_add_5 ?_
  refine j_iload_n X jd_Bo_add_8 rfl rfl ?_
  refine j_iast X js_195 (j_lt rfl hn) jd_Bo_add_9 h (fun h => ?_)
  refine j_mem h (fun I1 h => ?_)
  refine j_aload_n X jd_Bo_add_10 rfl rfl ?_
  refine j_getr X jf_Bo_17 jk_7_2 js_194 (j_lt rfl hn) (jp_194_2 hF) jd_Bo_add_11 ?_
  refine j_aload_n X jd_Bo_add_14 rfl rfl ?_
  refine j_get X jf_Bo_7 jk_7_0 js_194 (j_lt rfl hn) jd_Bo_add_15 ?_
  refine j_iload_n X jd_Bo_add_18 rfl rfl ?_
  refine j_iast X js_196 (j_lt rfl hn) jd_Bo_add_19 h (fun h => ?_)
  refine j_mem h (fun I2 h => ?_)
  refine j_aload_n X jd_Bo_add_20 rfl rfl ?_
  refine j_getr X jf_Bo_20 jk_7_3 js_194 (j_lt rfl hn) (jp_194_3 hF) jd_Bo_add_21 ?_
  refine j_aload_n X jd_Bo_add_24 rfl rfl ?_
  refine j_get X jf_Bo_7 jk_7_0 js_194 (j_lt rfl hn) jd_Bo_add_25 ?_
  refine j_iconst (v := (-1)) X jd_Bo_add_28 (by decide) ?_
  refine j_iast X js_197 (j_lt rfl hn) jd_Bo_add_29 h (fun h => ?_)
  refine j_mem h (fun I3 h => ?_)
  refine j_aload_n X jd_Bo_add_30 rfl rfl ?_
  refine j_dup X jd_Bo_add_31 rfl ?_
  refine j_get X jf_Bo_7 jk_7_0 js_194 (j_lt rfl hn) jd_Bo_add_32 ?_
  refine j_iconst (v := 1) X jd_Bo_add_35 (by decide) ?_
  refine j_iadd X jd_Bo_add_36 ?_
  refine j_puti X jt_Bo jto_Bo jn_Bo jf_Bo_7 jk_7_0 js_194 (j_lt rfl hn) (Or.inl rfl) rfl jd_Bo_add_37 ?_
  refine j_mem h (fun I4 h => ?_)
  refine j_aload_n X jd_Bo_add_40 rfl rfl ?_
  refine j_get X jf_Bo_7 jk_7_0 js_194 (j_lt rfl hn) jd_Bo_add_41 ?_
  refine j_iconst (v := 1) X jd_Bo_add_44 (by decide) ?_
  refine j_isub X jd_Bo_add_45 ?_
  exact j_iret X rfl jd_Bo_add_46 h
-- PleasureGarden$Kitchen.append(IIZ)I
theorem jd_Ki_append_0 : decode jb_Ki_append 0 = .ok (.aload_n 0, 1) := by decide +kernel
theorem jd_Ki_append_1 : decode jb_Ki_append 1 = .ok (.getfield 25, 3) := by decide +kernel
theorem jd_Ki_append_4 : decode jb_Ki_append 4 = .ok (.aload_n 0, 1) := by decide +kernel
theorem jd_Ki_append_5 : decode jb_Ki_append 5 = .ok (.getfield 22, 3) := by decide +kernel
theorem jd_Ki_append_8 : decode jb_Ki_append 8 = .ok (.iload_n 1, 1) := by decide +kernel
theorem jd_Ki_append_9 : decode jb_Ki_append 9 = .ok (.iastore, 1) := by decide +kernel
theorem jd_Ki_append_10 : decode jb_Ki_append 10 = .ok (.aload_n 0, 1) := by decide +kernel
theorem jd_Ki_append_11 : decode jb_Ki_append 11 = .ok (.getfield 29, 3) := by decide +kernel
theorem jd_Ki_append_14 : decode jb_Ki_append 14 = .ok (.aload_n 0, 1) := by decide +kernel
theorem jd_Ki_append_15 : decode jb_Ki_append 15 = .ok (.getfield 22, 3) := by decide +kernel
theorem jd_Ki_append_18 : decode jb_Ki_append 18 = .ok (.iload_n 2, 1) := by decide +kernel
theorem jd_Ki_append_19 : decode jb_Ki_append 19 = .ok (.iastore, 1) := by decide +kernel
theorem jd_Ki_append_20 : decode jb_Ki_append 20 = .ok (.aload_n 0, 1) := by decide +kernel
theorem jd_Ki_append_21 : decode jb_Ki_append 21 = .ok (.getfield 32, 3) := by decide +kernel
theorem jd_Ki_append_24 : decode jb_Ki_append 24 = .ok (.aload_n 0, 1) := by decide +kernel
theorem jd_Ki_append_25 : decode jb_Ki_append 25 = .ok (.getfield 22, 3) := by decide +kernel
theorem jd_Ki_append_28 : decode jb_Ki_append 28 = .ok (.iload_n 3, 1) := by decide +kernel
theorem jd_Ki_append_29 : decode jb_Ki_append 29 = .ok (.bastore, 1) := by decide +kernel
theorem jd_Ki_append_30 : decode jb_Ki_append 30 = .ok (.aload_n 0, 1) := by decide +kernel
theorem jd_Ki_append_31 : decode jb_Ki_append 31 = .ok (.dup, 1) := by decide +kernel
theorem jd_Ki_append_32 : decode jb_Ki_append 32 = .ok (.getfield 22, 3) := by decide +kernel
theorem jd_Ki_append_35 : decode jb_Ki_append 35 = .ok (.iconst 1, 1) := by decide +kernel
theorem jd_Ki_append_36 : decode jb_Ki_append 36 = .ok (.iadd, 1) := by decide +kernel
theorem jd_Ki_append_37 : decode jb_Ki_append 37 = .ok (.putfield 22, 3) := by decide +kernel
theorem jd_Ki_append_40 : decode jb_Ki_append 40 = .ok (.aload_n 0, 1) := by decide +kernel
theorem jd_Ki_append_41 : decode jb_Ki_append 41 = .ok (.getfield 22, 3) := by decide +kernel
theorem jd_Ki_append_44 : decode jb_Ki_append 44 = .ok (.ireturn, 1) := by decide +kernel
def f_Ki_append (F : Nat) (x1 : Int32) (x2 : Int32) (x3 : Int32) (I : j_M) : Option (Int32 × j_M) := (if j_ok (I 198 4) 60 = true then j_let (j_wr I 199 (j_ix (I 198 4)) x1) (fun I1 => (if j_ok (I1 198 4) 60 = true then j_let (j_wr I1 200 (j_ix (I1 198 4)) x2) (fun I2 => (if j_ok (I2 198 4) 60 = true then j_let (j_wr I2 201 (j_ix (I2 198 4)) (x3 &&& 1)) (fun I3 => j_let (j_wr I3 198 4 ((I3 198 4) + 1)) (fun I4 => some (I4 198 4, I4))) else none)) else none)) else none)
set_option maxRecDepth 100000 in
set_option maxHeartbeats 4000000 in
theorem k_Ki_append {l : Launch} {g : j_G} {b n : Nat} {P : j_R} {F : Nat} (hF : j_Fx 0 260 P) (hn : 260 ≤ n) {x1 : Int32} {x2 : Int32} {x3 : Int32} {I : j_M} {r : Int32 × j_M}  (h : f_Ki_append F x1 x2 x3 I = some r) : j_Met l g b n P 0 jy_Ki_append jb_Ki_append 4 (some .int) [.ref (b + 198), .int x1, .int x2, .int x3] I r.2 (some (.int r.1)) := by
  unfold f_Ki_append at h
  refine j_enter (plainFor_of_name (by decide)) (Nat.le_of_ble_eq_true rfl) [some (.ref (b + 198)), some (.int x1), some (.int x2), some (.int x3)] rfl ?_
  intro p e R s m args below meth c X0 hnm hRc hRs
  have X : j_X p R s m args meth c g b 0 jb_Ki_append 4 "PleasureGarden$Kitchen" (some .int) := X0
  clear X0
  refine j_aload_n X jd_Ki_append_0 rfl rfl ?_
  refine j_getr X jf_Ki_25 jk_8_5 js_198 (j_lt rfl hn) (jp_198_5 hF) jd_Ki_append_1 ?_
  refine j_aload_n X jd_Ki_append_4 rfl rfl ?_
  refine j_get X jf_Ki_22 jk_8_4 js_198 (j_lt rfl hn) jd_Ki_append_5 ?_
  refine j_iload_n X jd_Ki_append_8 rfl rfl ?_
  refine j_iast X js_199 (j_lt rfl hn) jd_Ki_append_9 h (fun h => ?_)
  refine j_mem h (fun I1 h => ?_)
  refine j_aload_n X jd_Ki_append_10 rfl rfl ?_
  refine j_getr X jf_Ki_29 jk_8_6 js_198 (j_lt rfl hn) (jp_198_6 hF) jd_Ki_append_11 ?_
  refine j_aload_n X jd_Ki_append_14 rfl rfl ?_
  refine j_get X jf_Ki_22 jk_8_4 js_198 (j_lt rfl hn) jd_Ki_append_15 ?_
  refine j_iload_n X jd_Ki_append_18 rfl rfl ?_
  refine j_iast X js_200 (j_lt rfl hn) jd_Ki_append_19 h (fun h => ?_)
  refine j_mem h (fun I2 h => ?_)
  refine j_aload_n X jd_Ki_append_20 rfl rfl ?_
  refine j_getr X jf_Ki_32 jk_8_7 js_198 (j_lt rfl hn) (jp_198_7 hF) jd_Ki_append_21 ?_
  refine j_aload_n X jd_Ki_append_24 rfl rfl ?_
  refine j_get X jf_Ki_22 jk_8_4 js_198 (j_lt rfl hn) jd_Ki_append_25 ?_
  refine j_iload_n X jd_Ki_append_28 rfl rfl ?_
  refine j_zast X js_201 (j_lt rfl hn) jd_Ki_append_29 h (fun h => ?_)
  refine j_mem h (fun I3 h => ?_)
  refine j_aload_n X jd_Ki_append_30 rfl rfl ?_
  refine j_dup X jd_Ki_append_31 rfl ?_
  refine j_get X jf_Ki_22 jk_8_4 js_198 (j_lt rfl hn) jd_Ki_append_32 ?_
  refine j_iconst (v := 1) X jd_Ki_append_35 (by decide) ?_
  refine j_iadd X jd_Ki_append_36 ?_
  refine j_puti X jt_Ki jto_Ki jn_Ki jf_Ki_22 jk_8_4 js_198 (j_lt rfl hn) (Or.inl rfl) rfl jd_Ki_append_37 ?_
  refine j_mem h (fun I4 h => ?_)
  refine j_aload_n X jd_Ki_append_40 rfl rfl ?_
  refine j_get X jf_Ki_22 jk_8_4 js_198 (j_lt rfl hn) jd_Ki_append_41 ?_
  exact j_iret X rfl jd_Ki_append_44 h
-- PleasureGarden$Kitchen.move(II)V
theorem jd_Ki_move_0 : decode jb_Ki_move 0 = .ok (.aload_n 0, 1) := by decide +kernel
theorem jd_Ki_move_1 : decode jb_Ki_move 1 = .ok (.getfield 25, 3) := by decide +kernel
theorem jd_Ki_move_4 : decode jb_Ki_move 4 = .ok (.iload_n 2, 1) := by decide +kernel
theorem jd_Ki_move_5 : decode jb_Ki_move 5 = .ok (.aload_n 0, 1) := by decide +kernel
theorem jd_Ki_move_6 : decode jb_Ki_move 6 = .ok (.getfield 25, 3) := by decide +kernel
theorem jd_Ki_move_9 : decode jb_Ki_move 9 = .ok (.iload_n 1, 1) := by decide +kernel
theorem jd_Ki_move_10 : decode jb_Ki_move 10 = .ok (.iaload, 1) := by decide +kernel
theorem jd_Ki_move_11 : decode jb_Ki_move 11 = .ok (.iastore, 1) := by decide +kernel
theorem jd_Ki_move_12 : decode jb_Ki_move 12 = .ok (.aload_n 0, 1) := by decide +kernel
theorem jd_Ki_move_13 : decode jb_Ki_move 13 = .ok (.getfield 29, 3) := by decide +kernel
theorem jd_Ki_move_16 : decode jb_Ki_move 16 = .ok (.iload_n 2, 1) := by decide +kernel
theorem jd_Ki_move_17 : decode jb_Ki_move 17 = .ok (.aload_n 0, 1) := by decide +kernel
theorem jd_Ki_move_18 : decode jb_Ki_move 18 = .ok (.getfield 29, 3) := by decide +kernel
theorem jd_Ki_move_21 : decode jb_Ki_move 21 = .ok (.iload_n 1, 1) := by decide +kernel
theorem jd_Ki_move_22 : decode jb_Ki_move 22 = .ok (.iaload, 1) := by decide +kernel
theorem jd_Ki_move_23 : decode jb_Ki_move 23 = .ok (.iastore, 1) := by decide +kernel
theorem jd_Ki_move_24 : decode jb_Ki_move 24 = .ok (.aload_n 0, 1) := by decide +kernel
theorem jd_Ki_move_25 : decode jb_Ki_move 25 = .ok (.getfield 32, 3) := by decide +kernel
theorem jd_Ki_move_28 : decode jb_Ki_move 28 = .ok (.iload_n 2, 1) := by decide +kernel
theorem jd_Ki_move_29 : decode jb_Ki_move 29 = .ok (.aload_n 0, 1) := by decide +kernel
theorem jd_Ki_move_30 : decode jb_Ki_move 30 = .ok (.getfield 32, 3) := by decide +kernel
theorem jd_Ki_move_33 : decode jb_Ki_move 33 = .ok (.iload_n 1, 1) := by decide +kernel
theorem jd_Ki_move_34 : decode jb_Ki_move 34 = .ok (.baload, 1) := by decide +kernel
theorem jd_Ki_move_35 : decode jb_Ki_move 35 = .ok (.bastore, 1) := by decide +kernel
theorem jd_Ki_move_36 : decode jb_Ki_move 36 = .ok (.return_, 1) := by decide +kernel
def f_Ki_move (F : Nat) (x1 : Int32) (x2 : Int32) (I : j_M) : Option (Int32 × j_M) := (if j_ok x1 60 = true then (if j_ok x2 60 = true then j_let (j_wr I 199 (j_ix x2) (I 199 (j_ix x1))) (fun I1 => (if j_ok x1 60 = true then (if j_ok x2 60 = true then j_let (j_wr I1 200 (j_ix x2) (I1 200 (j_ix x1))) (fun I2 => (if j_ok x1 60 = true then (if j_ok x2 60 = true then j_let (j_wr I2 201 (j_ix x2) ((I2 201 (j_ix x1)) &&& 1)) (fun I3 => some (0, I3)) else none) else none)) else none) else none)) else none) else none)
set_option maxRecDepth 100000 in
set_option maxHeartbeats 4000000 in
theorem k_Ki_move {l : Launch} {g : j_G} {b n : Nat} {P : j_R} {F : Nat} (hF : j_Fx 0 260 P) (hn : 260 ≤ n) {x1 : Int32} {x2 : Int32} {I : j_M} {r : Int32 × j_M}  (h : f_Ki_move F x1 x2 I = some r) : j_Met l g b n P 0 jy_Ki_move jb_Ki_move 3 none [.ref (b + 198), .int x1, .int x2] I r.2 none := by
  unfold f_Ki_move at h
  refine j_enter (plainFor_of_name (by decide)) (Nat.le_of_ble_eq_true rfl) [some (.ref (b + 198)), some (.int x1), some (.int x2)] rfl ?_
  intro p e R s m args below meth c X0 hnm hRc hRs
  have X : j_X p R s m args meth c g b 0 jb_Ki_move 3 "PleasureGarden$Kitchen" none := X0
  clear X0
  refine j_aload_n X jd_Ki_move_0 rfl rfl ?_
  refine j_getr X jf_Ki_25 jk_8_5 js_198 (j_lt rfl hn) (jp_198_5 hF) jd_Ki_move_1 ?_
  refine j_iload_n X jd_Ki_move_4 rfl rfl ?_
  refine j_aload_n X jd_Ki_move_5 rfl rfl ?_
  refine j_getr X jf_Ki_25 jk_8_5 js_198 (j_lt rfl hn) (jp_198_5 hF) jd_Ki_move_6 ?_
  refine j_iload_n X jd_Ki_move_9 rfl rfl ?_
  refine j_iald X js_199 (j_lt rfl hn) jd_Ki_move_10 h (fun _ h => ?_)
  refine j_iast X js_199 (j_lt rfl hn) jd_Ki_move_11 h (fun h => ?_)
  refine j_mem h (fun I1 h => ?_)
  refine j_aload_n X jd_Ki_move_12 rfl rfl ?_
  refine j_getr X jf_Ki_29 jk_8_6 js_198 (j_lt rfl hn) (jp_198_6 hF) jd_Ki_move_13 ?_
  refine j_iload_n X jd_Ki_move_16 rfl rfl ?_
  refine j_aload_n X jd_Ki_move_17 rfl rfl ?_
  refine j_getr X jf_Ki_29 jk_8_6 js_198 (j_lt rfl hn) (jp_198_6 hF) jd_Ki_move_18 ?_
  refine j_iload_n X jd_Ki_move_21 rfl rfl ?_
  refine j_iald X js_200 (j_lt rfl hn) jd_Ki_move_22 h (fun _ h => ?_)
  refine j_iast X js_200 (j_lt rfl hn) jd_Ki_move_23 h (fun h => ?_)
  refine j_mem h (fun I2 h => ?_)
  refine j_aload_n X jd_Ki_move_24 rfl rfl ?_
  refine j_getr X jf_Ki_32 jk_8_7 js_198 (j_lt rfl hn) (jp_198_7 hF) jd_Ki_move_25 ?_
  refine j_iload_n X jd_Ki_move_28 rfl rfl ?_
  refine j_aload_n X jd_Ki_move_29 rfl rfl ?_
  refine j_getr X jf_Ki_32 jk_8_7 js_198 (j_lt rfl hn) (jp_198_7 hF) jd_Ki_move_30 ?_
  refine j_iload_n X jd_Ki_move_33 rfl rfl ?_
  refine j_zald X js_201 (j_lt rfl hn) jd_Ki_move_34 h (fun _ h => ?_)
  refine j_zast X js_201 (j_lt rfl hn) jd_Ki_move_35 h (fun h => ?_)
  refine j_mem h (fun I3 h => ?_)
  exact j_vret X rfl jd_Ki_move_36 h
-- PleasureGarden$Sky.rains(I)Z
theorem jd_Sk_rains_0 : decode jb_Sk_rains 0 = .ok (.iload_n 1, 1) := by decide +kernel
theorem jd_Sk_rains_1 : decode jb_Sk_rains 1 = .ok (.iconst 0, 1) := by decide +kernel
theorem jd_Sk_rains_2 : decode jb_Sk_rains 2 = .ok (.sipush 479, 3) := by decide +kernel
theorem jd_Sk_rains_5 : decode jb_Sk_rains 5 = .ok (.invokestatic 19, 3) := by decide +kernel
theorem jd_Sk_rains_8 : decode jb_Sk_rains 8 = .ok (.ifCond .eq 16, 3) := by decide +kernel
theorem jd_Sk_rains_11 : decode jb_Sk_rains 11 = .ok (.aload_n 0, 1) := by decide +kernel
theorem jd_Sk_rains_12 : decode jb_Sk_rains 12 = .ok (.getfield 15, 3) := by decide +kernel
theorem jd_Sk_rains_15 : decode jb_Sk_rains 15 = .ok (.iload_n 1, 1) := by decide +kernel
theorem jd_Sk_rains_16 : decode jb_Sk_rains 16 = .ok (.baload, 1) := by decide +kernel
theorem jd_Sk_rains_17 : decode jb_Sk_rains 17 = .ok (.ifCond .eq 7, 3) := by decide +kernel
theorem jd_Sk_rains_20 : decode jb_Sk_rains 20 = .ok (.iconst 1, 1) := by decide +kernel
theorem jd_Sk_rains_21 : decode jb_Sk_rains 21 = .ok (.goto 4, 3) := by decide +kernel
theorem jd_Sk_rains_24 : decode jb_Sk_rains 24 = .ok (.iconst 0, 1) := by decide +kernel
theorem jd_Sk_rains_25 : decode jb_Sk_rains 25 = .ok (.ireturn, 1) := by decide +kernel
def f_Sk_rains (F : Nat) (x1 : Int32) (I : j_M) : Option (Int32 × j_M) := j_bd (f_G_within F x1 0 479 I) (fun v1 I2 => (if v1 = 0 then some (0, I2) else (if j_ok x1 480 = true then (if (I2 39 (j_ix x1)) = 0 then some (0, I2) else some (1, I2)) else none)))
set_option maxRecDepth 100000 in
set_option maxHeartbeats 4000000 in
theorem k_Sk_rains {l : Launch} {g : j_G} {b n : Nat} {P : j_R} {F : Nat} (hF : j_Fx 0 260 P) (hn : 260 ≤ n) {x1 : Int32} {I : j_M} {r : Int32 × j_M}  (h : f_Sk_rains F x1 I = some r) : j_Met l g b n P 1 jy_Sk_rains jb_Sk_rains 2 (some .boolean) [.ref (b + 38), .int x1] I r.2 (some (.int r.1)) := by
  unfold f_Sk_rains at h
  refine j_enter (plainFor_of_name (by decide)) (Nat.le_of_ble_eq_true rfl) [some (.ref (b + 38)), some (.int x1)] rfl ?_
  intro p e R s m args below meth c X0 hnm hRc hRs
  have X : j_X p R s m args meth c g b 1 jb_Sk_rains 2 "PleasureGarden$Sky" (some .boolean) := X0
  clear X0
  refine j_iload_n X jd_Sk_rains_0 rfl rfl ?_
  refine j_iconst (v := 0) X jd_Sk_rains_1 (by decide) ?_
  refine j_sipush (v := 479) X jd_Sk_rains_2 (by decide) ?_
  refine j_callSNi (As := [.int x1, .int 0, .int 479]) (st := []) X h ⟨jqc_G_within, jqs_G_within, jqn_G⟩ (by decide +kernel) jh_G_within.2 rfl (by decide) (by decide) (Nat.le_of_ble_eq_true rfl) ⟨Nat.zero_le _, Nat.zero_le _⟩ (fun v0 I0 h => k_G_within (r := (v0, I0)) hF hn h) jd_Sk_rains_5 rfl (fun v1 I2 h => ?_)
  refine j_if_eq (tgt := 24) X jd_Sk_rains_8 rfl h (fun h => ?_) (fun h => ?_)
  · refine j_iconst (v := 0) X jd_Sk_rains_24 (by decide) ?_
    exact j_zret X rfl (by decide) jd_Sk_rains_25 h
  · refine j_aload_n X jd_Sk_rains_11 rfl rfl ?_
    refine j_getr X jf_Sk_15 jk_2_1 js_38 (j_lt rfl hn) (jp_38_1 hF) jd_Sk_rains_12 ?_
    refine j_iload_n X jd_Sk_rains_15 rfl rfl ?_
    refine j_zald X js_39 (j_lt rfl hn) jd_Sk_rains_16 h (fun _ h => ?_)
    refine j_if_eq (tgt := 24) X jd_Sk_rains_17 rfl h (fun h => ?_) (fun h => ?_)
    · refine j_iconst (v := 0) X jd_Sk_rains_24 (by decide) ?_
      exact j_zret X rfl (by decide) jd_Sk_rains_25 h
    · refine j_iconst (v := 1) X jd_Sk_rains_20 (by decide) ?_
      refine j_goto (tgt := 25) X jd_Sk_rains_21 rfl ?_
      exact j_zret X rfl (by decide) jd_Sk_rains_25 h
-- PleasureGarden$Watch.witnesses(I)I
theorem jd_Wa_witnesses_0 : decode jb_Wa_witnesses 0 = .ok (.iconst 0, 1) := by decide +kernel
theorem jd_Wa_witnesses_1 : decode jb_Wa_witnesses 1 = .ok (.istore_n 2, 1) := by decide +kernel
theorem jd_Wa_witnesses_2 : decode jb_Wa_witnesses 2 = .ok (.iconst 0, 1) := by decide +kernel
theorem jd_Wa_witnesses_3 : decode jb_Wa_witnesses 3 = .ok (.istore_n 3, 1) := by decide +kernel
theorem jd_Wa_witnesses_4 : decode jb_Wa_witnesses 4 = .ok (.iload_n 3, 1) := by decide +kernel
theorem jd_Wa_witnesses_5 : decode jb_Wa_witnesses 5 = .ok (.aload_n 0, 1) := by decide +kernel
theorem jd_Wa_witnesses_6 : decode jb_Wa_witnesses 6 = .ok (.getfield 15, 3) := by decide +kernel
theorem jd_Wa_witnesses_9 : decode jb_Wa_witnesses 9 = .ok (.if_icmp .ge 26, 3) := by decide +kernel
theorem jd_Wa_witnesses_12 : decode jb_Wa_witnesses 12 = .ok (.iload_n 2, 1) := by decide +kernel
theorem jd_Wa_witnesses_13 : decode jb_Wa_witnesses 13 = .ok (.aload_n 0, 1) := by decide +kernel
theorem jd_Wa_witnesses_14 : decode jb_Wa_witnesses 14 = .ok (.iload_n 3, 1) := by decide +kernel
theorem jd_Wa_witnesses_15 : decode jb_Wa_witnesses 15 = .ok (.iload_n 1, 1) := by decide +kernel
theorem jd_Wa_witnesses_16 : decode jb_Wa_witnesses 16 = .ok (.invokevirtual 40, 3) := by decide +kernel
theorem jd_Wa_witnesses_19 : decode jb_Wa_witnesses 19 = .ok (.ifCond .eq 7, 3) := by decide +kernel
theorem jd_Wa_witnesses_22 : decode jb_Wa_witnesses 22 = .ok (.iconst 1, 1) := by decide +kernel
theorem jd_Wa_witnesses_23 : decode jb_Wa_witnesses 23 = .ok (.goto 4, 3) := by decide +kernel
theorem jd_Wa_witnesses_26 : decode jb_Wa_witnesses 26 = .ok (.iconst 0, 1) := by decide +kernel
theorem jd_Wa_witnesses_27 : decode jb_Wa_witnesses 27 = .ok (.iadd, 1) := by decide +kernel
theorem jd_Wa_witnesses_28 : decode jb_Wa_witnesses 28 = .ok (.istore_n 2, 1) := by decide +kernel
theorem jd_Wa_witnesses_29 : decode jb_Wa_witnesses 29 = .ok (.iinc 3 1, 3) := by decide +kernel
theorem jd_Wa_witnesses_32 : decode jb_Wa_witnesses 32 = .ok (.goto (-28), 3) := by decide +kernel
theorem jd_Wa_witnesses_35 : decode jb_Wa_witnesses 35 = .ok (.iload_n 2, 1) := by decide +kernel
theorem jd_Wa_witnesses_36 : decode jb_Wa_witnesses 36 = .ok (.ireturn, 1) := by decide +kernel
def f_Wa_witnesses_27 (F : Nat) (kb4 : Int32 → Int32 → Int32 → j_M → Option (Int32 × j_M)) (x1 : Int32) (x3 : Int32) (s0 : Int32) (s1 : Int32) (I : j_M) : Option (Int32 × j_M) := j_let (s0 + s1) (fun v1 => j_let (x3 + 1) (fun v2 => kb4 x1 v1 v2 I))
def f_Wa_witnesses_4b (F : Nat) (kb4 : Int32 → Int32 → Int32 → j_M → Option (Int32 × j_M)) (x1 : Int32) (x2 : Int32) (x3 : Int32) (I : j_M) : Option (Int32 × j_M) := (if (I 143 1) ≤ x3 then some (x2, I) else j_bd (f_Wa_saw F x3 x1 I) (fun v3 I4 => (if v3 = 0 then f_Wa_witnesses_27 F kb4 x1 x3 x2 0 I4 else f_Wa_witnesses_27 F kb4 x1 x3 x2 1 I4)))
def f_Wa_witnesses_4 (F : Nat)  (x1 : Int32) (x2 : Int32) (x3 : Int32) (I : j_M) : Option (Int32 × j_M) := j_it (fun (again : Int32 × Int32 × Int32 × j_M → Option (Int32 × j_M)) (q : Int32 × Int32 × Int32 × j_M) => f_Wa_witnesses_4b F  (fun x1 x2 x3 I => again (x1, x2, x3, I))  q.1 q.2.1 q.2.2.1 q.2.2.2) F (x1, x2, x3, I)
def f_Wa_witnesses (F : Nat) (x1 : Int32) (I : j_M) : Option (Int32 × j_M) := f_Wa_witnesses_4 F x1 0 0 I
set_option maxRecDepth 100000 in
set_option maxHeartbeats 4000000 in
theorem k_Wa_witnesses_27 {p : Program} {l : Launch} {e : Env} {R : Room} {s : State} {m : MethodId} {args : Array Value} {below : List Frame} {meth : Method} {c : Code} {g : j_G} {b n : Nat} {P : j_R} {F : Nat} (hF : j_Fx 0 260 P) (hn : 260 ≤ n) (X : j_X p R s m args meth c g b 1 jb_Wa_witnesses 4 "PleasureGarden$Watch" (some .int)) {kb4 : Int32 → Int32 → Int32 → j_M → Option (Int32 × j_M)} (hkb4 : ∀ (x1 : Int32) (x2 : Int32) (x3 : Int32) (I : j_M) (r : Int32 × j_M), kb4 x1 x2 x3 I = some r → j_W p l e R s m args below meth c 4 g b n 0 0 (j_Qi g b n P below args s r) I P 4 [some (.ref (b + 143)), some (.int x1), some (.int x2), some (.int x3)] []) {x1 : Int32} {x3 : Int32} {s0 : Int32} {s1 : Int32} {I : j_M} {r : Int32 × j_M}  (h : f_Wa_witnesses_27 F kb4 x1 x3 s0 s1 I = some r) : j_W p l e R s m args below meth c 4 g b n 0 0 (j_Qi g b n P below args s r) I P 27 [some (.ref (b + 143)), some (.int x1), none, some (.int x3)] [.int s1, .int s0] := by
  unfold f_Wa_witnesses_27 at h
  refine j_iadd X jd_Wa_witnesses_27 ?_
  refine j_nm h (fun v1 h => ?_)
  refine j_istore_n (lv' := [some (.ref (b + 143)), some (.int x1), some (.int v1), some (.int x3)]) X jd_Wa_witnesses_28 rfl (by decide) rfl ?_
  obtain ⟨v2, ev2, h⟩ := j_ex h
  refine j_iinc (v := v2) (lv' := [some (.ref (b + 143)), some (.int x1), some (.int v1), some (.int v2)]) X jd_Wa_witnesses_29 rfl (by rw [ev2]; rfl) (by decide) rfl ?_
  refine j_goto (tgt := 4) X jd_Wa_witnesses_32 rfl ?_
  exact hkb4 _ _ _ _ _ h
set_option maxRecDepth 100000 in
set_option maxHeartbeats 4000000 in
theorem k_Wa_witnesses_4b {p : Program} {l : Launch} {e : Env} {R : Room} {s : State} {m : MethodId} {args : Array Value} {below : List Frame} {meth : Method} {c : Code} {g : j_G} {b n : Nat} {P : j_R} {F : Nat} (hF : j_Fx 0 260 P) (hn : 260 ≤ n) (X : j_X p R s m args meth c g b 1 jb_Wa_witnesses 4 "PleasureGarden$Watch" (some .int)) {kb4 : Int32 → Int32 → Int32 → j_M → Option (Int32 × j_M)} (hkb4 : ∀ (x1 : Int32) (x2 : Int32) (x3 : Int32) (I : j_M) (r : Int32 × j_M), kb4 x1 x2 x3 I = some r → j_W p l e R s m args below meth c 4 g b n 0 0 (j_Qi g b n P below args s r) I P 4 [some (.ref (b + 143)), some (.int x1), some (.int x2), some (.int x3)] []) {x1 : Int32} {x2 : Int32} {x3 : Int32} {I : j_M} {r : Int32 × j_M}  (h : f_Wa_witnesses_4b F kb4 x1 x2 x3 I = some r) : j_W p l e R s m args below meth c 4 g b n 0 0 (j_Qi g b n P below args s r) I P 4 [some (.ref (b + 143)), some (.int x1), some (.int x2), some (.int x3)] [] := by
  unfold f_Wa_witnesses_4b at h
  refine j_iload_n X jd_Wa_witnesses_4 rfl rfl ?_
  refine j_aload_n X jd_Wa_witnesses_5 rfl rfl ?_
  refine j_get X jf_Wa_15 jk_5_1 js_143 (j_lt rfl hn) jd_Wa_witnesses_6 ?_
  refine j_icmp_ge (tgt := 35) X jd_Wa_witnesses_9 rfl h (fun h => ?_) (fun h => ?_)
  · refine j_iload_n X jd_Wa_witnesses_35 rfl rfl ?_
    exact j_iret X rfl jd_Wa_witnesses_36 h
  · refine j_iload_n X jd_Wa_witnesses_12 rfl rfl ?_
    refine j_aload_n X jd_Wa_witnesses_13 rfl rfl ?_
    refine j_iload_n X jd_Wa_witnesses_14 rfl rfl ?_
    refine j_iload_n X jd_Wa_witnesses_15 rfl rfl ?_
    refine j_callVi (As := [.int x3, .int x1]) (st := [.int x2]) (c0 := 143) X h jc_Wa js_143 (j_lt rfl hn) ⟨jqc_Wa_saw, jqi_Wa_saw, jqv_Wa_saw, jqn_Wa⟩ jlm_Wa_40 jh_Wa_saw rfl (by decide) (by decide) (Nat.le_of_ble_eq_true rfl) ⟨Nat.zero_le _, Nat.zero_le _⟩ (fun v0 I0 h => k_Wa_saw (r := (v0, I0)) hF hn h) jd_Wa_witnesses_16 rfl (fun v3 I4 h => ?_)
    refine j_if_eq (tgt := 26) X jd_Wa_witnesses_19 rfl h (fun h => ?_) (fun h => ?_)
    · refine j_iconst (v := 0) X jd_Wa_witnesses_26 (by decide) ?_
      refine j_sub [true, true, false, true] (lv' := [some (.ref (b + 143)), some (.int x1), none, some (.int x3)]) rfl ?_
      exact k_Wa_witnesses_27 hF hn X hkb4 h
    · refine j_iconst (v := 1) X jd_Wa_witnesses_22 (by decide) ?_
      refine j_goto (tgt := 27) X jd_Wa_witnesses_23 rfl ?_
      refine j_sub [true, true, false, true] (lv' := [some (.ref (b + 143)), some (.int x1), none, some (.int x3)]) rfl ?_
      exact k_Wa_witnesses_27 hF hn X hkb4 h
set_option maxRecDepth 100000 in
set_option maxHeartbeats 4000000 in
theorem k_Wa_witnesses_4 {p : Program} {l : Launch} {e : Env} {R : Room} {s : State} {m : MethodId} {args : Array Value} {below : List Frame} {meth : Method} {c : Code} {g : j_G} {b n : Nat} {P : j_R} {F : Nat} (hF : j_Fx 0 260 P) (hn : 260 ≤ n) (X : j_X p R s m args meth c g b 1 jb_Wa_witnesses 4 "PleasureGarden$Watch" (some .int))  {x1 : Int32} {x2 : Int32} {x3 : Int32} {I : j_M} {r : Int32 × j_M} (h : f_Wa_witnesses_4 F x1 x2 x3 I = some r) : j_W p l e R s m args below meth c 4 g b n 0 0 (j_Qi g b n P below args s r) I P 4 [some (.ref (b + 143)), some (.int x1), some (.int x2), some (.int x3)] [] := by
  refine j_loop (G := fun (q : Int32 × Int32 × Int32 × j_M) (r : Int32 × j_M) => j_W p l e R s m args below meth c 4 g b n 0 0 (j_Qi g b n P below args s r) q.2.2.2 P 4 [some (.ref (b + 143)), some (.int (q.1)), some (.int (q.2.1)), some (.int (q.2.2.1))] []) ?_ F (x1, x2, x3, I) r h
  intro again hrec0 q r h
  exact k_Wa_witnesses_4b hF hn X (fun x1 x2 x3 I r h => hrec0 (x1, x2, x3, I) r h)  h
set_option maxRecDepth 100000 in
set_option maxHeartbeats 4000000 in
theorem k_Wa_witnesses {l : Launch} {g : j_G} {b n : Nat} {P : j_R} {F : Nat} (hF : j_Fx 0 260 P) (hn : 260 ≤ n) {x1 : Int32} {I : j_M} {r : Int32 × j_M}  (h : f_Wa_witnesses F x1 I = some r) : j_Met l g b n P 1 jy_Wa_witnesses jb_Wa_witnesses 4 (some .int) [.ref (b + 143), .int x1] I r.2 (some (.int r.1)) := by
  unfold f_Wa_witnesses at h
  refine j_enter (plainFor_of_name (by decide)) (Nat.le_of_ble_eq_true rfl) [some (.ref (b + 143)), some (.int x1), none, none] rfl ?_
  intro p e R s m args below meth c X0 hnm hRc hRs
  have X : j_X p R s m args meth c g b 1 jb_Wa_witnesses 4 "PleasureGarden$Watch" (some .int) := X0
  clear X0
  refine j_iconst (v := 0) X jd_Wa_witnesses_0 (by decide) ?_
  refine j_istore_n (lv' := [some (.ref (b + 143)), some (.int x1), some (.int 0), none]) X jd_Wa_witnesses_1 rfl (by decide) rfl ?_
  refine j_iconst (v := 0) X jd_Wa_witnesses_2 (by decide) ?_
  refine j_istore_n (lv' := [some (.ref (b + 143)), some (.int x1), some (.int 0), some (.int 0)]) X jd_Wa_witnesses_3 rfl (by decide) rfl ?_
  exact k_Wa_witnesses_4 hF hn X h
-- PleasureGarden$Watch.suspicion(I)I
theorem jd_Wa_suspicion_0 : decode jb_Wa_suspicion 0 = .ok (.iconst 0, 1) := by decide +kernel
theorem jd_Wa_suspicion_1 : decode jb_Wa_suspicion 1 = .ok (.istore_n 2, 1) := by decide +kernel
theorem jd_Wa_suspicion_2 : decode jb_Wa_suspicion 2 = .ok (.iconst 0, 1) := by decide +kernel
theorem jd_Wa_suspicion_3 : decode jb_Wa_suspicion 3 = .ok (.istore_n 3, 1) := by decide +kernel
theorem jd_Wa_suspicion_4 : decode jb_Wa_suspicion 4 = .ok (.iload_n 3, 1) := by decide +kernel
theorem jd_Wa_suspicion_5 : decode jb_Wa_suspicion 5 = .ok (.aload_n 0, 1) := by decide +kernel
theorem jd_Wa_suspicion_6 : decode jb_Wa_suspicion 6 = .ok (.getfield 31, 3) := by decide +kernel
theorem jd_Wa_suspicion_9 : decode jb_Wa_suspicion 9 = .ok (.if_icmp .ge 56, 3) := by decide +kernel
theorem jd_Wa_suspicion_12 : decode jb_Wa_suspicion 12 = .ok (.iconst 0, 1) := by decide +kernel
theorem jd_Wa_suspicion_13 : decode jb_Wa_suspicion 13 = .ok (.istore 4, 2) := by decide +kernel
theorem jd_Wa_suspicion_15 : decode jb_Wa_suspicion 15 = .ok (.iload 4, 2) := by decide +kernel
theorem jd_Wa_suspicion_17 : decode jb_Wa_suspicion 17 = .ok (.aload_n 0, 1) := by decide +kernel
theorem jd_Wa_suspicion_18 : decode jb_Wa_suspicion 18 = .ok (.getfield 15, 3) := by decide +kernel
theorem jd_Wa_suspicion_21 : decode jb_Wa_suspicion 21 = .ok (.if_icmp .ge 38, 3) := by decide +kernel
theorem jd_Wa_suspicion_24 : decode jb_Wa_suspicion 24 = .ok (.iload_n 2, 1) := by decide +kernel
theorem jd_Wa_suspicion_25 : decode jb_Wa_suspicion 25 = .ok (.aload_n 0, 1) := by decide +kernel
theorem jd_Wa_suspicion_26 : decode jb_Wa_suspicion 26 = .ok (.getfield 18, 3) := by decide +kernel
theorem jd_Wa_suspicion_29 : decode jb_Wa_suspicion 29 = .ok (.iload 4, 2) := by decide +kernel
theorem jd_Wa_suspicion_31 : decode jb_Wa_suspicion 31 = .ok (.iaload, 1) := by decide +kernel
theorem jd_Wa_suspicion_32 : decode jb_Wa_suspicion 32 = .ok (.iload_n 1, 1) := by decide +kernel
theorem jd_Wa_suspicion_33 : decode jb_Wa_suspicion 33 = .ok (.if_icmp .ne 17, 3) := by decide +kernel
theorem jd_Wa_suspicion_36 : decode jb_Wa_suspicion 36 = .ok (.aload_n 0, 1) := by decide +kernel
theorem jd_Wa_suspicion_37 : decode jb_Wa_suspicion 37 = .ok (.iload 4, 2) := by decide +kernel
theorem jd_Wa_suspicion_39 : decode jb_Wa_suspicion 39 = .ok (.iload_n 3, 1) := by decide +kernel
theorem jd_Wa_suspicion_40 : decode jb_Wa_suspicion 40 = .ok (.invokevirtual 40, 3) := by decide +kernel
theorem jd_Wa_suspicion_43 : decode jb_Wa_suspicion 43 = .ok (.ifCond .eq 7, 3) := by decide +kernel
theorem jd_Wa_suspicion_46 : decode jb_Wa_suspicion 46 = .ok (.iconst 1, 1) := by decide +kernel
theorem jd_Wa_suspicion_47 : decode jb_Wa_suspicion 47 = .ok (.goto 4, 3) := by decide +kernel
theorem jd_Wa_suspicion_50 : decode jb_Wa_suspicion 50 = .ok (.iconst 0, 1) := by decide +kernel
theorem jd_Wa_suspicion_51 : decode jb_Wa_suspicion 51 = .ok (.iadd, 1) := by decide +kernel
theorem jd_Wa_suspicion_52 : decode jb_Wa_suspicion 52 = .ok (.istore_n 2, 1) := by decide +kernel
theorem jd_Wa_suspicion_53 : decode jb_Wa_suspicion 53 = .ok (.iinc 4 1, 3) := by decide +kernel
theorem jd_Wa_suspicion_56 : decode jb_Wa_suspicion 56 = .ok (.goto (-41), 3) := by decide +kernel
theorem jd_Wa_suspicion_59 : decode jb_Wa_suspicion 59 = .ok (.iinc 3 1, 3) := by decide +kernel
theorem jd_Wa_suspicion_62 : decode jb_Wa_suspicion 62 = .ok (.goto (-58), 3) := by decide +kernel
theorem jd_Wa_suspicion_65 : decode jb_Wa_suspicion 65 = .ok (.iload_n 2, 1) := by decide +kernel
theorem jd_Wa_suspicion_66 : decode jb_Wa_suspicion 66 = .ok (.ireturn, 1) := by decide +kernel
def f_Wa_suspicion_51 (F : Nat) (kb15 : Int32 → Int32 → Int32 → Int32 → j_M → Option (Int32 × j_M)) (x1 : Int32) (x3 : Int32) (x4 : Int32) (s0 : Int32) (s1 : Int32) (I : j_M) : Option (Int32 × j_M) := j_let (s0 + s1) (fun v1 => j_let (x4 + 1) (fun v2 => kb15 x1 v1 x3 v2 I))
def f_Wa_suspicion_50 (F : Nat) (kb15 : Int32 → Int32 → Int32 → Int32 → j_M → Option (Int32 × j_M)) (x1 : Int32) (x3 : Int32) (x4 : Int32) (s0 : Int32) (I : j_M) : Option (Int32 × j_M) := f_Wa_suspicion_51 F kb15 x1 x3 x4 s0 0 I
def f_Wa_suspicion_15b (F : Nat) (kb15 : Int32 → Int32 → Int32 → Int32 → j_M → Option (Int32 × j_M)) (kb4 : Int32 → Int32 → Int32 → j_M → Option (Int32 × j_M)) (x1 : Int32) (x2 : Int32) (x3 : Int32) (x4 : Int32) (I : j_M) : Option (Int32 × j_M) := (if (I 143 1) ≤ x4 then j_let (x3 + 1) (fun v3 => kb4 x1 x2 v3 I) else (if j_ok x4 1040 = true then (if (I 144 (j_ix x4)) = x1 then j_bd (f_Wa_saw F x4 x3 I) (fun v4 I5 => (if v4 = 0 then f_Wa_suspicion_50 F kb15 x1 x3 x4 x2 I5 else f_Wa_suspicion_51 F kb15 x1 x3 x4 x2 1 I5)) else f_Wa_suspicion_50 F kb15 x1 x3 x4 x2 I) else none))
def f_Wa_suspicion_15 (F : Nat) (kb4 : Int32 → Int32 → Int32 → j_M → Option (Int32 × j_M)) (x1 : Int32) (x2 : Int32) (x3 : Int32) (x4 : Int32) (I : j_M) : Option (Int32 × j_M) := j_it (fun (again : Int32 × Int32 × Int32 × Int32 × j_M → Option (Int32 × j_M)) (q : Int32 × Int32 × Int32 × Int32 × j_M) => f_Wa_suspicion_15b F  (fun x1 x2 x3 x4 I => again (x1, x2, x3, x4, I)) kb4 q.1 q.2.1 q.2.2.1 q.2.2.2.1 q.2.2.2.2) F (x1, x2, x3, x4, I)
def f_Wa_suspicion_4b (F : Nat) (kb4 : Int32 → Int32 → Int32 → j_M → Option (Int32 × j_M)) (x1 : Int32) (x2 : Int32) (x3 : Int32) (I : j_M) : Option (Int32 × j_M) := (if (I 143 6) ≤ x3 then some (x2, I) else f_Wa_suspicion_15 F kb4 x1 x2 x3 0 I)
def f_Wa_suspicion_4 (F : Nat)  (x1 : Int32) (x2 : Int32) (x3 : Int32) (I : j_M) : Option (Int32 × j_M) := j_it (fun (again : Int32 × Int32 × Int32 × j_M → Option (Int32 × j_M)) (q : Int32 × Int32 × Int32 × j_M) => f_Wa_suspicion_4b F  (fun x1 x2 x3 I => again (x1, x2, x3, I))  q.1 q.2.1 q.2.2.1 q.2.2.2) F (x1, x2, x3, I)
def f_Wa_suspicion (F : Nat) (x1 : Int32) (I : j_M) : Option (Int32 × j_M) := f_Wa_suspicion_4 F x1 0 0 I
set_option maxRecDepth 100000 in
set_option maxHeartbeats 4000000 in
theorem k_Wa_suspicion_51 {p : Program} {l : Launch} {e : Env} {R : Room} {s : State} {m : MethodId} {args : Array Value} {below : List Frame} {meth : Method} {c : Code} {g : j_G} {b n : Nat} {P : j_R} {F : Nat} (hF : j_Fx 0 260 P) (hn : 260 ≤ n) (X : j_X p R s m args meth c g b 1 jb_Wa_suspicion 5 "PleasureGarden$Watch" (some .int)) {kb15 : Int32 → Int32 → Int32 → Int32 → j_M → Option (Int32 × j_M)} (hkb15 : ∀ (x1 : Int32) (x2 : Int32) (x3 : Int32) (x4 : Int32) (I : j_M) (r : Int32 × j_M), kb15 x1 x2 x3 x4 I = some r → j_W p l e R s m args below meth c 5 g b n 0 0 (j_Qi g b n P below args s r) I P 15 [some (.ref (b + 143)), some (.int x1), some (.int x2), some (.int x3), some (.int x4)] []) {x1 : Int32} {x3 : Int32} {x4 : Int32} {s0 : Int32} {s1 : Int32} {I : j_M} {r : Int32 × j_M}  (h : f_Wa_suspicion_51 F kb15 x1 x3 x4 s0 s1 I = some r) : j_W p l e R s m args below meth c 5 g b n 0 0 (j_Qi g b n P below args s r) I P 51 [some (.ref (b + 143)), some (.int x1), none, some (.int x3), some (.int x4)] [.int s1, .int s0] := by
  unfold f_Wa_suspicion_51 at h
  refine j_iadd X jd_Wa_suspicion_51 ?_
  refine j_nm h (fun v1 h => ?_)
  refine j_istore_n (lv' := [some (.ref (b + 143)), some (.int x1), some (.int v1), some (.int x3), some (.int x4)]) X jd_Wa_suspicion_52 rfl (by decide) rfl ?_
  obtain ⟨v2, ev2, h⟩ := j_ex h
  refine j_iinc (v := v2) (lv' := [some (.ref (b + 143)), some (.int x1), some (.int v1), some (.int x3), some (.int v2)]) X jd_Wa_suspicion_53 rfl (by rw [ev2]; rfl) (by decide) rfl ?_
  refine j_goto (tgt := 15) X jd_Wa_suspicion_56 rfl ?_
  exact hkb15 _ _ _ _ _ _ h
set_option maxRecDepth 100000 in
set_option maxHeartbeats 4000000 in
theorem k_Wa_suspicion_50 {p : Program} {l : Launch} {e : Env} {R : Room} {s : State} {m : MethodId} {args : Array Value} {below : List Frame} {meth : Method} {c : Code} {g : j_G} {b n : Nat} {P : j_R} {F : Nat} (hF : j_Fx 0 260 P) (hn : 260 ≤ n) (X : j_X p R s m args meth c g b 1 jb_Wa_suspicion 5 "PleasureGarden$Watch" (some .int)) {kb15 : Int32 → Int32 → Int32 → Int32 → j_M → Option (Int32 × j_M)} (hkb15 : ∀ (x1 : Int32) (x2 : Int32) (x3 : Int32) (x4 : Int32) (I : j_M) (r : Int32 × j_M), kb15 x1 x2 x3 x4 I = some r → j_W p l e R s m args below meth c 5 g b n 0 0 (j_Qi g b n P below args s r) I P 15 [some (.ref (b + 143)), some (.int x1), some (.int x2), some (.int x3), some (.int x4)] []) {x1 : Int32} {x3 : Int32} {x4 : Int32} {s0 : Int32} {I : j_M} {r : Int32 × j_M}  (h : f_Wa_suspicion_50 F kb15 x1 x3 x4 s0 I = some r) : j_W p l e R s m args below meth c 5 g b n 0 0 (j_Qi g b n P below args s r) I P 50 [some (.ref (b + 143)), some (.int x1), none, some (.int x3), some (.int x4)] [.int s0] := by
  unfold f_Wa_suspicion_50 at h
  refine j_iconst (v := 0) X jd_Wa_suspicion_50 (by decide) ?_
  exact k_Wa_suspicion_51 hF hn X hkb15 h
set_option maxRecDepth 100000 in
set_option maxHeartbeats 4000000 in
theorem k_Wa_suspicion_15b {p : Program} {l : Launch} {e : Env} {R : Room} {s : State} {m : MethodId} {args : Array Value} {below : List Frame} {meth : Method} {c : Code} {g : j_G} {b n : Nat} {P : j_R} {F : Nat} (hF : j_Fx 0 260 P) (hn : 260 ≤ n) (X : j_X p R s m args meth c g b 1 jb_Wa_suspicion 5 "PleasureGarden$Watch" (some .int)) {kb15 : Int32 → Int32 → Int32 → Int32 → j_M → Option (Int32 × j_M)} (hkb15 : ∀ (x1 : Int32) (x2 : Int32) (x3 : Int32) (x4 : Int32) (I : j_M) (r : Int32 × j_M), kb15 x1 x2 x3 x4 I = some r → j_W p l e R s m args below meth c 5 g b n 0 0 (j_Qi g b n P below args s r) I P 15 [some (.ref (b + 143)), some (.int x1), some (.int x2), some (.int x3), some (.int x4)] []) {kb4 : Int32 → Int32 → Int32 → j_M → Option (Int32 × j_M)} (hkb4 : ∀ (x1 : Int32) (x2 : Int32) (x3 : Int32) (I : j_M) (r : Int32 × j_M), kb4 x1 x2 x3 I = some r → j_W p l e R s m args below meth c 5 g b n 0 0 (j_Qi g b n P below args s r) I P 4 [some (.ref (b + 143)), some (.int x1), some (.int x2), some (.int x3), none] []) {x1 : Int32} {x2 : Int32} {x3 : Int32} {x4 : Int32} {I : j_M} {r : Int32 × j_M}  (h : f_Wa_suspicion_15b F kb15 kb4 x1 x2 x3 x4 I = some r) : j_W p l e R s m args below meth c 5 g b n 0 0 (j_Qi g b n P below args s r) I P 15 [some (.ref (b + 143)), some (.int x1), some (.int x2), some (.int x3), some (.int x4)] [] := by
  unfold f_Wa_suspicion_15b at h
  refine j_iload X jd_Wa_suspicion_15 rfl ?_
  refine j_aload_n X jd_Wa_suspicion_17 rfl rfl ?_
  refine j_get X jf_Wa_15 jk_5_1 js_143 (j_lt rfl hn) jd_Wa_suspicion_18 ?_
  refine j_icmp_ge (tgt := 59) X jd_Wa_suspicion_21 rfl h (fun h => ?_) (fun h => ?_)
  · obtain ⟨v3, ev3, h⟩ := j_ex h
    refine j_iinc (v := v3) (lv' := [some (.ref (b + 143)), some (.int x1), some (.int x2), some (.int v3), some (.int x4)]) X jd_Wa_suspicion_59 rfl (by rw [ev3]; rfl) (by decide) rfl ?_
    refine j_goto (tgt := 4) X jd_Wa_suspicion_62 rfl ?_
    refine j_sub [true, true, true, true, false] (lv' := [some (.ref (b + 143)), some (.int x1), some (.int x2), some (.int v3), none]) rfl ?_
    exact hkb4 _ _ _ _ _ h
  · refine j_iload_n X jd_Wa_suspicion_24 rfl rfl ?_
    refine j_aload_n X jd_Wa_suspicion_25 rfl rfl ?_
    refine j_getr X jf_Wa_18 jk_5_2 js_143 (j_lt rfl hn) (jp_143_2 hF) jd_Wa_suspicion_26 ?_
    refine j_iload X jd_Wa_suspicion_29 rfl ?_
    refine j_iald X js_144 (j_lt rfl hn) jd_Wa_suspicion_31 h (fun _ h => ?_)
    refine j_iload_n X jd_Wa_suspicion_32 rfl rfl ?_
    refine j_icmp_ne (tgt := 50) X jd_Wa_suspicion_33 rfl h (fun h => ?_) (fun h => ?_)
    · refine j_aload_n X jd_Wa_suspicion_36 rfl rfl ?_
      refine j_iload X jd_Wa_suspicion_37 rfl ?_
      refine j_iload_n X jd_Wa_suspicion_39 rfl rfl ?_
      refine j_callVi (As := [.int x4, .int x3]) (st := [.int x2]) (c0 := 143) X h jc_Wa js_143 (j_lt rfl hn) ⟨jqc_Wa_saw, jqi_Wa_saw, jqv_Wa_saw, jqn_Wa⟩ jlm_Wa_40 jh_Wa_saw rfl (by decide) (by decide) (Nat.le_of_ble_eq_true rfl) ⟨Nat.zero_le _, Nat.zero_le _⟩ (fun v0 I0 h => k_Wa_saw (r := (v0, I0)) hF hn h) jd_Wa_suspicion_40 rfl (fun v4 I5 h => ?_)
      refine j_if_eq (tgt := 50) X jd_Wa_suspicion_43 rfl h (fun h => ?_) (fun h => ?_)
      · refine j_sub [true, true, false, true, true] (lv' := [some (.ref (b + 143)), some (.int x1), none, some (.int x3), some (.int x4)]) rfl ?_
        exact k_Wa_suspicion_50 hF hn X hkb15 h
      · refine j_iconst (v := 1) X jd_Wa_suspicion_46 (by decide) ?_
        refine j_goto (tgt := 51) X jd_Wa_suspicion_47 rfl ?_
        refine j_sub [true, true, false, true, true] (lv' := [some (.ref (b + 143)), some (.int x1), none, some (.int x3), some (.int x4)]) rfl ?_
        exact k_Wa_suspicion_51 hF hn X hkb15 h
    · refine j_sub [true, true, false, true, true] (lv' := [some (.ref (b + 143)), some (.int x1), none, some (.int x3), some (.int x4)]) rfl ?_
      exact k_Wa_suspicion_50 hF hn X hkb15 h
set_option maxRecDepth 100000 in
set_option maxHeartbeats 4000000 in
theorem k_Wa_suspicion_15 {p : Program} {l : Launch} {e : Env} {R : Room} {s : State} {m : MethodId} {args : Array Value} {below : List Frame} {meth : Method} {c : Code} {g : j_G} {b n : Nat} {P : j_R} {F : Nat} (hF : j_Fx 0 260 P) (hn : 260 ≤ n) (X : j_X p R s m args meth c g b 1 jb_Wa_suspicion 5 "PleasureGarden$Watch" (some .int)) {kb4 : Int32 → Int32 → Int32 → j_M → Option (Int32 × j_M)} (hkb4 : ∀ (x1 : Int32) (x2 : Int32) (x3 : Int32) (I : j_M) (r : Int32 × j_M), kb4 x1 x2 x3 I = some r → j_W p l e R s m args below meth c 5 g b n 0 0 (j_Qi g b n P below args s r) I P 4 [some (.ref (b + 143)), some (.int x1), some (.int x2), some (.int x3), none] []) {x1 : Int32} {x2 : Int32} {x3 : Int32} {x4 : Int32} {I : j_M} {r : Int32 × j_M} (h : f_Wa_suspicion_15 F kb4 x1 x2 x3 x4 I = some r) : j_W p l e R s m args below meth c 5 g b n 0 0 (j_Qi g b n P below args s r) I P 15 [some (.ref (b + 143)), some (.int x1), some (.int x2), some (.int x3), some (.int x4)] [] := by
  refine j_loop (G := fun (q : Int32 × Int32 × Int32 × Int32 × j_M) (r : Int32 × j_M) => j_W p l e R s m args below meth c 5 g b n 0 0 (j_Qi g b n P below args s r) q.2.2.2.2 P 15 [some (.ref (b + 143)), some (.int (q.1)), some (.int (q.2.1)), some (.int (q.2.2.1)), some (.int (q.2.2.2.1))] []) ?_ F (x1, x2, x3, x4, I) r h
  intro again hrec0 q r h
  exact k_Wa_suspicion_15b hF hn X (fun x1 x2 x3 x4 I r h => hrec0 (x1, x2, x3, x4, I) r h) hkb4 h
set_option maxRecDepth 100000 in
set_option maxHeartbeats 4000000 in
theorem k_Wa_suspicion_4b {p : Program} {l : Launch} {e : Env} {R : Room} {s : State} {m : MethodId} {args : Array Value} {below : List Frame} {meth : Method} {c : Code} {g : j_G} {b n : Nat} {P : j_R} {F : Nat} (hF : j_Fx 0 260 P) (hn : 260 ≤ n) (X : j_X p R s m args meth c g b 1 jb_Wa_suspicion 5 "PleasureGarden$Watch" (some .int)) {kb4 : Int32 → Int32 → Int32 → j_M → Option (Int32 × j_M)} (hkb4 : ∀ (x1 : Int32) (x2 : Int32) (x3 : Int32) (I : j_M) (r : Int32 × j_M), kb4 x1 x2 x3 I = some r → j_W p l e R s m args below meth c 5 g b n 0 0 (j_Qi g b n P below args s r) I P 4 [some (.ref (b + 143)), some (.int x1), some (.int x2), some (.int x3), none] []) {x1 : Int32} {x2 : Int32} {x3 : Int32} {I : j_M} {r : Int32 × j_M}  (h : f_Wa_suspicion_4b F kb4 x1 x2 x3 I = some r) : j_W p l e R s m args below meth c 5 g b n 0 0 (j_Qi g b n P below args s r) I P 4 [some (.ref (b + 143)), some (.int x1), some (.int x2), some (.int x3), none] [] := by
  unfold f_Wa_suspicion_4b at h
  refine j_iload_n X jd_Wa_suspicion_4 rfl rfl ?_
  refine j_aload_n X jd_Wa_suspicion_5 rfl rfl ?_
  refine j_get X jf_Wa_31 jk_5_6 js_143 (j_lt rfl hn) jd_Wa_suspicion_6 ?_
  refine j_icmp_ge (tgt := 65) X jd_Wa_suspicion_9 rfl h (fun h => ?_) (fun h => ?_)
  · refine j_iload_n X jd_Wa_suspicion_65 rfl rfl ?_
    exact j_iret X rfl jd_Wa_suspicion_66 h
  · refine j_iconst (v := 0) X jd_Wa_suspicion_12 (by decide) ?_
    refine j_istore (lv' := [some (.ref (b + 143)), some (.int x1), some (.int x2), some (.int x3), some (.int 0)]) X jd_Wa_suspicion_13 (by decide) rfl ?_
    exact k_Wa_suspicion_15 hF hn X hkb4 h
set_option maxRecDepth 100000 in
set_option maxHeartbeats 4000000 in
theorem k_Wa_suspicion_4 {p : Program} {l : Launch} {e : Env} {R : Room} {s : State} {m : MethodId} {args : Array Value} {below : List Frame} {meth : Method} {c : Code} {g : j_G} {b n : Nat} {P : j_R} {F : Nat} (hF : j_Fx 0 260 P) (hn : 260 ≤ n) (X : j_X p R s m args meth c g b 1 jb_Wa_suspicion 5 "PleasureGarden$Watch" (some .int))  {x1 : Int32} {x2 : Int32} {x3 : Int32} {I : j_M} {r : Int32 × j_M} (h : f_Wa_suspicion_4 F x1 x2 x3 I = some r) : j_W p l e R s m args below meth c 5 g b n 0 0 (j_Qi g b n P below args s r) I P 4 [some (.ref (b + 143)), some (.int x1), some (.int x2), some (.int x3), none] [] := by
  refine j_loop (G := fun (q : Int32 × Int32 × Int32 × j_M) (r : Int32 × j_M) => j_W p l e R s m args below meth c 5 g b n 0 0 (j_Qi g b n P below args s r) q.2.2.2 P 4 [some (.ref (b + 143)), some (.int (q.1)), some (.int (q.2.1)), some (.int (q.2.2.1)), none] []) ?_ F (x1, x2, x3, I) r h
  intro again hrec0 q r h
  exact k_Wa_suspicion_4b hF hn X (fun x1 x2 x3 I r h => hrec0 (x1, x2, x3, I) r h)  h
set_option maxRecDepth 100000 in
set_option maxHeartbeats 4000000 in
theorem k_Wa_suspicion {l : Launch} {g : j_G} {b n : Nat} {P : j_R} {F : Nat} (hF : j_Fx 0 260 P) (hn : 260 ≤ n) {x1 : Int32} {I : j_M} {r : Int32 × j_M}  (h : f_Wa_suspicion F x1 I = some r) : j_Met l g b n P 1 jy_Wa_suspicion jb_Wa_suspicion 5 (some .int) [.ref (b + 143), .int x1] I r.2 (some (.int r.1)) := by
  unfold f_Wa_suspicion at h
  refine j_enter (plainFor_of_name (by decide)) (Nat.le_of_ble_eq_true rfl) [some (.ref (b + 143)), some (.int x1), none, none, none] rfl ?_
  intro p e R s m args below meth c X0 hnm hRc hRs
  have X : j_X p R s m args meth c g b 1 jb_Wa_suspicion 5 "PleasureGarden$Watch" (some .int) := X0
  clear X0
  refine j_iconst (v := 0) X jd_Wa_suspicion_0 (by decide) ?_
  refine j_istore_n (lv' := [some (.ref (b + 143)), some (.int x1), some (.int 0), none, none]) X jd_Wa_suspicion_1 rfl (by decide) rfl ?_
  refine j_iconst (v := 0) X jd_Wa_suspicion_2 (by decide) ?_
  refine j_istore_n (lv' := [some (.ref (b + 143)), some (.int x1), some (.int 0), some (.int 0), none]) X jd_Wa_suspicion_3 rfl (by decide) rfl ?_
  exact k_Wa_suspicion_4 hF hn X h
-- PleasureGarden$Kitchen.removeFirst()V
theorem jd_Ki_removeFirst_0 : decode jb_Ki_removeFirst 0 = .ok (.aload_n 0, 1) := by decide +kernel
theorem jd_Ki_removeFirst_1 : decode jb_Ki_removeFirst 1 = .ok (.dup, 1) := by decide +kernel
theorem jd_Ki_removeFirst_2 : decode jb_Ki_removeFirst 2 = .ok (.getfield 22, 3) := by decide +kernel
theorem jd_Ki_removeFirst_5 : decode jb_Ki_removeFirst 5 = .ok (.iconst 1, 1) := by decide +kernel
theorem jd_Ki_removeFirst_6 : decode jb_Ki_removeFirst 6 = .ok (.isub, 1) := by decide +kernel
theorem jd_Ki_removeFirst_7 : decode jb_Ki_removeFirst 7 = .ok (.putfield 22, 3) := by decide +kernel
theorem jd_Ki_removeFirst_10 : decode jb_Ki_removeFirst 10 = .ok (.iconst 0, 1) := by decide +kernel
theorem jd_Ki_removeFirst_11 : decode jb_Ki_removeFirst 11 = .ok (.istore_n 1, 1) := by decide +kernel
theorem jd_Ki_removeFirst_12 : decode jb_Ki_removeFirst 12 = .ok (.iload_n 1, 1) := by decide +kernel
theorem jd_Ki_removeFirst_13 : decode jb_Ki_removeFirst 13 = .ok (.aload_n 0, 1) := by decide +kernel
theorem jd_Ki_removeFirst_14 : decode jb_Ki_removeFirst 14 = .ok (.getfield 22, 3) := by decide +kernel
theorem jd_Ki_removeFirst_17 : decode jb_Ki_removeFirst 17 = .ok (.if_icmp .ge 17, 3) := by decide +kernel
theorem jd_Ki_removeFirst_20 : decode jb_Ki_removeFirst 20 = .ok (.aload_n 0, 1) := by decide +kernel
theorem jd_Ki_removeFirst_21 : decode jb_Ki_removeFirst 21 = .ok (.iload_n 1, 1) := by decide +kernel
theorem jd_Ki_removeFirst_22 : decode jb_Ki_removeFirst 22 = .ok (.iconst 1, 1) := by decide +kernel
theorem jd_Ki_removeFirst_23 : decode jb_Ki_removeFirst 23 = .ok (.iadd, 1) := by decide +kernel
theorem jd_Ki_removeFirst_24 : decode jb_Ki_removeFirst 24 = .ok (.iload_n 1, 1) := by decide +kernel
theorem jd_Ki_removeFirst_25 : decode jb_Ki_removeFirst 25 = .ok (.invokevirtual 43, 3) := by decide +kernel
theorem jd_Ki_removeFirst_28 : decode jb_Ki_removeFirst 28 = .ok (.iinc 1 1, 3) := by decide +kernel
theorem jd_Ki_removeFirst_31 : decode jb_Ki_removeFirst 31 = .ok (.goto (-19), 3) := by decide +kernel
theorem jd_Ki_removeFirst_34 : decode jb_Ki_removeFirst 34 = .ok (.return_, 1) := by decide +kernel
def f_Ki_removeFirst_12b (F : Nat) (kb12 : Int32 → j_M → Option (Int32 × j_M)) (x1 : Int32) (I : j_M) : Option (Int32 × j_M) := (if (I 198 4) ≤ x1 then some (0, I) else j_bd (f_Ki_move F (x1 + 1) x1 I) (fun v1 I2 => j_let (x1 + 1) (fun v3 => kb12 v3 I2)))
def f_Ki_removeFirst_12 (F : Nat)  (x1 : Int32) (I : j_M) : Option (Int32 × j_M) := j_it (fun (again : Int32 × j_M → Option (Int32 × j_M)) (q : Int32 × j_M) => f_Ki_removeFirst_12b F  (fun x1 I => again (x1, I))  q.1 q.2) F (x1, I)
def f_Ki_removeFirst (F : Nat)  (I : j_M) : Option (Int32 × j_M) := j_let (j_wr I 198 4 ((I 198 4) - 1)) (fun I4 => f_Ki_removeFirst_12 F 0 I4)
set_option maxRecDepth 100000 in
set_option maxHeartbeats 4000000 in
theorem k_Ki_removeFirst_12b {p : Program} {l : Launch} {e : Env} {R : Room} {s : State} {m : MethodId} {args : Array Value} {below : List Frame} {meth : Method} {c : Code} {g : j_G} {b n : Nat} {P : j_R} {F : Nat} (hF : j_Fx 0 260 P) (hn : 260 ≤ n) (X : j_X p R s m args meth c g b 1 jb_Ki_removeFirst 2 "PleasureGarden$Kitchen" none) {kb12 : Int32 → j_M → Option (Int32 × j_M)} (hkb12 : ∀ (x1 : Int32) (I : j_M) (r : Int32 × j_M), kb12 x1 I = some r → j_W p l e R s m args below meth c 2 g b n 0 0 (j_Qv g b n P below args s r) I P 12 [some (.ref (b + 198)), some (.int x1)] []) {x1 : Int32} {I : j_M} {r : Int32 × j_M}  (h : f_Ki_removeFirst_12b F kb12 x1 I = some r) : j_W p l e R s m args below meth c 2 g b n 0 0 (j_Qv g b n P below args s r) I P 12 [some (.ref (b + 198)), some (.int x1)] [] := by
  unfold f_Ki_removeFirst_12b at h
  refine j_iload_n X jd_Ki_removeFirst_12 rfl rfl ?_
  refine j_aload_n X jd_Ki_removeFirst_13 rfl rfl ?_
  refine j_get X jf_Ki_22 jk_8_4 js_198 (j_lt rfl hn) jd_Ki_removeFirst_14 ?_
  refine j_icmp_ge (tgt := 34) X jd_Ki_removeFirst_17 rfl h (fun h => ?_) (fun h => ?_)
  · exact j_vret X rfl jd_Ki_removeFirst_34 h
  · refine j_aload_n X jd_Ki_removeFirst_20 rfl rfl ?_
    refine j_iload_n X jd_Ki_removeFirst_21 rfl rfl ?_
    refine j_iconst (v := 1) X jd_Ki_removeFirst_22 (by decide) ?_
    refine j_iadd X jd_Ki_removeFirst_23 ?_
    refine j_iload_n X jd_Ki_removeFirst_24 rfl rfl ?_
    refine j_callVv (As := [.int (x1 + 1), .int x1]) (st := []) (c0 := 198) X h jc_Ki js_198 (j_lt rfl hn) ⟨jqc_Ki_move, jqi_Ki_move, jqv_Ki_move, jqn_Ki⟩ jlm_Ki_43 jh_Ki_move rfl (by decide) (by decide) (Nat.le_of_ble_eq_true rfl) ⟨Nat.zero_le _, Nat.zero_le _⟩ (fun v0 I0 h => k_Ki_move (r := (v0, I0)) hF hn h) jd_Ki_removeFirst_25 rfl (fun v1 I2 h => ?_)
    obtain ⟨v3, ev3, h⟩ := j_ex h
    refine j_iinc (v := v3) (lv' := [some (.ref (b + 198)), some (.int v3)]) X jd_Ki_removeFirst_28 rfl (by rw [ev3]; rfl) (by decide) rfl ?_
    refine j_goto (tgt := 12) X jd_Ki_removeFirst_31 rfl ?_
    exact hkb12 _ _ _ h
set_option maxRecDepth 100000 in
set_option maxHeartbeats 4000000 in
theorem k_Ki_removeFirst_12 {p : Program} {l : Launch} {e : Env} {R : Room} {s : State} {m : MethodId} {args : Array Value} {below : List Frame} {meth : Method} {c : Code} {g : j_G} {b n : Nat} {P : j_R} {F : Nat} (hF : j_Fx 0 260 P) (hn : 260 ≤ n) (X : j_X p R s m args meth c g b 1 jb_Ki_removeFirst 2 "PleasureGarden$Kitchen" none)  {x1 : Int32} {I : j_M} {r : Int32 × j_M} (h : f_Ki_removeFirst_12 F x1 I = some r) : j_W p l e R s m args below meth c 2 g b n 0 0 (j_Qv g b n P below args s r) I P 12 [some (.ref (b + 198)), some (.int x1)] [] := by
  refine j_loop (G := fun (q : Int32 × j_M) (r : Int32 × j_M) => j_W p l e R s m args below meth c 2 g b n 0 0 (j_Qv g b n P below args s r) q.2 P 12 [some (.ref (b + 198)), some (.int (q.1))] []) ?_ F (x1, I) r h
  intro again hrec0 q r h
  exact k_Ki_removeFirst_12b hF hn X (fun x1 I r h => hrec0 (x1, I) r h)  h
set_option maxRecDepth 100000 in
set_option maxHeartbeats 4000000 in
theorem k_Ki_removeFirst {l : Launch} {g : j_G} {b n : Nat} {P : j_R} {F : Nat} (hF : j_Fx 0 260 P) (hn : 260 ≤ n)  {I : j_M} {r : Int32 × j_M}  (h : f_Ki_removeFirst F I = some r) : j_Met l g b n P 1 jy_Ki_removeFirst jb_Ki_removeFirst 2 none [.ref (b + 198)] I r.2 none := by
  unfold f_Ki_removeFirst at h
  refine j_enter (plainFor_of_name (by decide)) (Nat.le_of_ble_eq_true rfl) [some (.ref (b + 198)), none] rfl ?_
  intro p e R s m args below meth c X0 hnm hRc hRs
  have X : j_X p R s m args meth c g b 1 jb_Ki_removeFirst 2 "PleasureGarden$Kitchen" none := X0
  clear X0
  refine j_aload_n X jd_Ki_removeFirst_0 rfl rfl ?_
  refine j_dup X jd_Ki_removeFirst_1 rfl ?_
  refine j_get X jf_Ki_22 jk_8_4 js_198 (j_lt rfl hn) jd_Ki_removeFirst_2 ?_
  refine j_iconst (v := 1) X jd_Ki_removeFirst_5 (by decide) ?_
  refine j_isub X jd_Ki_removeFirst_6 ?_
  refine j_puti X jt_Ki jto_Ki jn_Ki jf_Ki_22 jk_8_4 js_198 (j_lt rfl hn) (Or.inl rfl) rfl jd_Ki_removeFirst_7 ?_
  refine j_mem h (fun I4 h => ?_)
  refine j_iconst (v := 0) X jd_Ki_removeFirst_10 (by decide) ?_
  refine j_istore_n (lv' := [some (.ref (b + 198)), some (.int 0)]) X jd_Ki_removeFirst_11 rfl (by decide) rfl ?_
  exact k_Ki_removeFirst_12 hF hn X h
-- PleasureGarden$Kitchen.dropOrdersOf(I)V
theorem jd_Ki_dropOrdersOf_0 : decode jb_Ki_dropOrdersOf 0 = .ok (.iconst 0, 1) := by decide +kernel
theorem jd_Ki_dropOrdersOf_1 : decode jb_Ki_dropOrdersOf 1 = .ok (.istore_n 2, 1) := by decide +kernel
theorem jd_Ki_dropOrdersOf_2 : decode jb_Ki_dropOrdersOf 2 = .ok (.iconst 0, 1) := by decide +kernel
theorem jd_Ki_dropOrdersOf_3 : decode jb_Ki_dropOrdersOf 3 = .ok (.istore_n 3, 1) := by decide +kernel
theorem jd_Ki_dropOrdersOf_4 : decode jb_Ki_dropOrdersOf 4 = .ok (.iload_n 3, 1) := by decide +kernel
theorem jd_Ki_dropOrdersOf_5 : decode jb_Ki_dropOrdersOf 5 = .ok (.aload_n 0, 1) := by decide +kernel
theorem jd_Ki_dropOrdersOf_6 : decode jb_Ki_dropOrdersOf 6 = .ok (.getfield 22, 3) := by decide +kernel
theorem jd_Ki_dropOrdersOf_9 : decode jb_Ki_dropOrdersOf 9 = .ok (.if_icmp .ge 28, 3) := by decide +kernel
theorem jd_Ki_dropOrdersOf_12 : decode jb_Ki_dropOrdersOf 12 = .ok (.aload_n 0, 1) := by decide +kernel
theorem jd_Ki_dropOrdersOf_13 : decode jb_Ki_dropOrdersOf 13 = .ok (.getfield 25, 3) := by decide +kernel
theorem jd_Ki_dropOrdersOf_16 : decode jb_Ki_dropOrdersOf 16 = .ok (.iload_n 3, 1) := by decide +kernel
theorem jd_Ki_dropOrdersOf_17 : decode jb_Ki_dropOrdersOf 17 = .ok (.iaload, 1) := by decide +kernel
theorem jd_Ki_dropOrdersOf_18 : decode jb_Ki_dropOrdersOf 18 = .ok (.iload_n 1, 1) := by decide +kernel
theorem jd_Ki_dropOrdersOf_19 : decode jb_Ki_dropOrdersOf 19 = .ok (.if_icmp .eq 12, 3) := by decide +kernel
theorem jd_Ki_dropOrdersOf_22 : decode jb_Ki_dropOrdersOf 22 = .ok (.aload_n 0, 1) := by decide +kernel
theorem jd_Ki_dropOrdersOf_23 : decode jb_Ki_dropOrdersOf 23 = .ok (.iload_n 3, 1) := by decide +kernel
theorem jd_Ki_dropOrdersOf_24 : decode jb_Ki_dropOrdersOf 24 = .ok (.iload_n 2, 1) := by decide +kernel
theorem jd_Ki_dropOrdersOf_25 : decode jb_Ki_dropOrdersOf 25 = .ok (.invokevirtual 43, 3) := by decide +kernel
theorem jd_Ki_dropOrdersOf_28 : decode jb_Ki_dropOrdersOf 28 = .ok (.iinc 2 1, 3) := by decide +kernel
theorem jd_Ki_dropOrdersOf_31 : decode jb_Ki_dropOrdersOf 31 = .ok (.iinc 3 1, 3) := by decide +kernel
theorem jd_Ki_dropOrdersOf_34 : decode jb_Ki_dropOrdersOf 34 = .ok (.goto (-30), 3) := by decide +kernel
theorem jd_Ki_dropOrdersOf_37 : decode jb_Ki_dropOrdersOf 37 = .ok (.aload_n 0, 1) := by decide +kernel
theorem jd_Ki_dropOrdersOf_38 : decode jb_Ki_dropOrdersOf 38 = .ok (.iload_n 2, 1) := by decide +kernel
theorem jd_Ki_dropOrdersOf_39 : decode jb_Ki_dropOrdersOf 39 = .ok (.putfield 22, 3) := by decide +kernel
theorem jd_Ki_dropOrdersOf_42 : decode jb_Ki_dropOrdersOf 42 = .ok (.return_, 1) := by decide +kernel
def f_Ki_dropOrdersOf_31 (F : Nat) (kb4 : Int32 → Int32 → Int32 → j_M → Option (Int32 × j_M)) (x1 : Int32) (x2 : Int32) (x3 : Int32) (I : j_M) : Option (Int32 × j_M) := j_let (x3 + 1) (fun v1 => kb4 x1 x2 v1 I)
def f_Ki_dropOrdersOf_4b (F : Nat) (kb4 : Int32 → Int32 → Int32 → j_M → Option (Int32 × j_M)) (x1 : Int32) (x2 : Int32) (x3 : Int32) (I : j_M) : Option (Int32 × j_M) := (if (I 198 4) ≤ x3 then j_let (j_wr I 198 4 x2) (fun I2 => some (0, I2)) else (if j_ok x3 60 = true then (if (I 199 (j_ix x3)) = x1 then f_Ki_dropOrdersOf_31 F kb4 x1 x2 x3 I else j_bd (f_Ki_move F x3 x2 I) (fun v3 I4 => j_let (x2 + 1) (fun v5 => f_Ki_dropOrdersOf_31 F kb4 x1 v5 x3 I4))) else none))
def f_Ki_dropOrdersOf_4 (F : Nat)  (x1 : Int32) (x2 : Int32) (x3 : Int32) (I : j_M) : Option (Int32 × j_M) := j_it (fun (again : Int32 × Int32 × Int32 × j_M → Option (Int32 × j_M)) (q : Int32 × Int32 × Int32 × j_M) => f_Ki_dropOrdersOf_4b F  (fun x1 x2 x3 I => again (x1, x2, x3, I))  q.1 q.2.1 q.2.2.1 q.2.2.2) F (x1, x2, x3, I)
def f_Ki_dropOrdersOf (F : Nat) (x1 : Int32) (I : j_M) : Option (Int32 × j_M) := f_Ki_dropOrdersOf_4 F x1 0 0 I
set_option maxRecDepth 100000 in
set_option maxHeartbeats 4000000 in
theorem k_Ki_dropOrdersOf_31 {p : Program} {l : Launch} {e : Env} {R : Room} {s : State} {m : MethodId} {args : Array Value} {below : List Frame} {meth : Method} {c : Code} {g : j_G} {b n : Nat} {P : j_R} {F : Nat} (hF : j_Fx 0 260 P) (hn : 260 ≤ n) (X : j_X p R s m args meth c g b 1 jb_Ki_dropOrdersOf 4 "PleasureGarden$Kitchen" none) {kb4 : Int32 → Int32 → Int32 → j_M → Option (Int32 × j_M)} (hkb4 : ∀ (x1 : Int32) (x2 : Int32) (x3 : Int32) (I : j_M) (r : Int32 × j_M), kb4 x1 x2 x3 I = some r → j_W p l e R s m args below meth c 4 g b n 0 0 (j_Qv g b n P below args s r) I P 4 [some (.ref (b + 198)), some (.int x1), some (.int x2), some (.int x3)] []) {x1 : Int32} {x2 : Int32} {x3 : Int32} {I : j_M} {r : Int32 × j_M}  (h : f_Ki_dropOrdersOf_31 F kb4 x1 x2 x3 I = some r) : j_W p l e R s m args below meth c 4 g b n 0 0 (j_Qv g b n P below args s r) I P 31 [some (.ref (b + 198)), some (.int x1), some (.int x2), some (.int x3)] [] := by
  unfold f_Ki_dropOrdersOf_31 at h
  obtain ⟨v1, ev1, h⟩ := j_ex h
  refine j_iinc (v := v1) (lv' := [some (.ref (b + 198)), some (.int x1), some (.int x2), some (.int v1)]) X jd_Ki_dropOrdersOf_31 rfl (by rw [ev1]; rfl) (by decide) rfl ?_
  refine j_goto (tgt := 4) X jd_Ki_dropOrdersOf_34 rfl ?_
  exact hkb4 _ _ _ _ _ h
set_option maxRecDepth 100000 in
set_option maxHeartbeats 4000000 in
theorem k_Ki_dropOrdersOf_4b {p : Program} {l : Launch} {e : Env} {R : Room} {s : State} {m : MethodId} {args : Array Value} {below : List Frame} {meth : Method} {c : Code} {g : j_G} {b n : Nat} {P : j_R} {F : Nat} (hF : j_Fx 0 260 P) (hn : 260 ≤ n) (X : j_X p R s m args meth c g b 1 jb_Ki_dropOrdersOf 4 "PleasureGarden$Kitchen" none) {kb4 : Int32 → Int32 → Int32 → j_M → Option (Int32 × j_M)} (hkb4 : ∀ (x1 : Int32) (x2 : Int32) (x3 : Int32) (I : j_M) (r : Int32 × j_M), kb4 x1 x2 x3 I = some r → j_W p l e R s m args below meth c 4 g b n 0 0 (j_Qv g b n P below args s r) I P 4 [some (.ref (b + 198)), some (.int x1), some (.int x2), some (.int x3)] []) {x1 : Int32} {x2 : Int32} {x3 : Int32} {I : j_M} {r : Int32 × j_M}  (h : f_Ki_dropOrdersOf_4b F kb4 x1 x2 x3 I = some r) : j_W p l e R s m args below meth c 4 g b n 0 0 (j_Qv g b n P below args s r) I P 4 [some (.ref (b + 198)), some (.int x1), some (.int x2), some (.int x3)] [] := by
  unfold f_Ki_dropOrdersOf_4b at h
  refine j_iload_n X jd_Ki_dropOrdersOf_4 rfl rfl ?_
  refine j_aload_n X jd_Ki_dropOrdersOf_5 rfl rfl ?_
  refine j_get X jf_Ki_22 jk_8_4 js_198 (j_lt rfl hn) jd_Ki_dropOrdersOf_6 ?_
  refine j_icmp_ge (tgt := 37) X jd_Ki_dropOrdersOf_9 rfl h (fun h => ?_) (fun h => ?_)
  · refine j_aload_n X jd_Ki_dropOrdersOf_37 rfl rfl ?_
    refine j_iload_n X jd_Ki_dropOrdersOf_38 rfl rfl ?_
    refine j_puti X jt_Ki jto_Ki jn_Ki jf_Ki_22 jk_8_4 js_198 (j_lt rfl hn) (Or.inl rfl) rfl jd_Ki_dropOrdersOf_39 ?_
    refine j_mem h (fun I2 h => ?_)
    exact j_vret X rfl jd_Ki_dropOrdersOf_42 h
  · refine j_aload_n X jd_Ki_dropOrdersOf_12 rfl rfl ?_
    refine j_getr X jf_Ki_25 jk_8_5 js_198 (j_lt rfl hn) (jp_198_5 hF) jd_Ki_dropOrdersOf_13 ?_
    refine j_iload_n X jd_Ki_dropOrdersOf_16 rfl rfl ?_
    refine j_iald X js_199 (j_lt rfl hn) jd_Ki_dropOrdersOf_17 h (fun _ h => ?_)
    refine j_iload_n X jd_Ki_dropOrdersOf_18 rfl rfl ?_
    refine j_icmp_eq (tgt := 31) X jd_Ki_dropOrdersOf_19 rfl h (fun h => ?_) (fun h => ?_)
    · exact k_Ki_dropOrdersOf_31 hF hn X hkb4 h
    · refine j_aload_n X jd_Ki_dropOrdersOf_22 rfl rfl ?_
      refine j_iload_n X jd_Ki_dropOrdersOf_23 rfl rfl ?_
      refine j_iload_n X jd_Ki_dropOrdersOf_24 rfl rfl ?_
      refine j_callVv (As := [.int x3, .int x2]) (st := []) (c0 := 198) X h jc_Ki js_198 (j_lt rfl hn) ⟨jqc_Ki_move, jqi_Ki_move, jqv_Ki_move, jqn_Ki⟩ jlm_Ki_43 jh_Ki_move rfl (by decide) (by decide) (Nat.le_of_ble_eq_true rfl) ⟨Nat.zero_le _, Nat.zero_le _⟩ (fun v0 I0 h => k_Ki_move (r := (v0, I0)) hF hn h) jd_Ki_dropOrdersOf_25 rfl (fun v3 I4 h => ?_)
      obtain ⟨v5, ev5, h⟩ := j_ex h
      refine j_iinc (v := v5) (lv' := [some (.ref (b + 198)), some (.int x1), some (.int v5), some (.int x3)]) X jd_Ki_dropOrdersOf_28 rfl (by rw [ev5]; rfl) (by decide) rfl ?_
      exact k_Ki_dropOrdersOf_31 hF hn X hkb4 h
set_option maxRecDepth 100000 in
set_option maxHeartbeats 4000000 in
theorem k_Ki_dropOrdersOf_4 {p : Program} {l : Launch} {e : Env} {R : Room} {s : State} {m : MethodId} {args : Array Value} {below : List Frame} {meth : Method} {c : Code} {g : j_G} {b n : Nat} {P : j_R} {F : Nat} (hF : j_Fx 0 260 P) (hn : 260 ≤ n) (X : j_X p R s m args meth c g b 1 jb_Ki_dropOrdersOf 4 "PleasureGarden$Kitchen" none)  {x1 : Int32} {x2 : Int32} {x3 : Int32} {I : j_M} {r : Int32 × j_M} (h : f_Ki_dropOrdersOf_4 F x1 x2 x3 I = some r) : j_W p l e R s m args below meth c 4 g b n 0 0 (j_Qv g b n P below args s r) I P 4 [some (.ref (b + 198)), some (.int x1), some (.int x2), some (.int x3)] [] := by
  refine j_loop (G := fun (q : Int32 × Int32 × Int32 × j_M) (r : Int32 × j_M) => j_W p l e R s m args below meth c 4 g b n 0 0 (j_Qv g b n P below args s r) q.2.2.2 P 4 [some (.ref (b + 198)), some (.int (q.1)), some (.int (q.2.1)), some (.int (q.2.2.1))] []) ?_ F (x1, x2, x3, I) r h
  intro again hrec0 q r h
  exact k_Ki_dropOrdersOf_4b hF hn X (fun x1 x2 x3 I r h => hrec0 (x1, x2, x3, I) r h)  h
set_option maxRecDepth 100000 in
set_option maxHeartbeats 4000000 in
theorem k_Ki_dropOrdersOf {l : Launch} {g : j_G} {b n : Nat} {P : j_R} {F : Nat} (hF : j_Fx 0 260 P) (hn : 260 ≤ n) {x1 : Int32} {I : j_M} {r : Int32 × j_M}  (h : f_Ki_dropOrdersOf F x1 I = some r) : j_Met l g b n P 1 jy_Ki_dropOrdersOf jb_Ki_dropOrdersOf 4 none [.ref (b + 198), .int x1] I r.2 none := by
  unfold f_Ki_dropOrdersOf at h
  refine j_enter (plainFor_of_name (by decide)) (Nat.le_of_ble_eq_true rfl) [some (.ref (b + 198)), some (.int x1), none, none] rfl ?_
  intro p e R s m args below meth c X0 hnm hRc hRs
  have X : j_X p R s m args meth c g b 1 jb_Ki_dropOrdersOf 4 "PleasureGarden$Kitchen" none := X0
  clear X0
  refine j_iconst (v := 0) X jd_Ki_dropOrdersOf_0 (by decide) ?_
  refine j_istore_n (lv' := [some (.ref (b + 198)), some (.int x1), some (.int 0), none]) X jd_Ki_dropOrdersOf_1 rfl (by decide) rfl ?_
  refine j_iconst (v := 0) X jd_Ki_dropOrdersOf_2 (by decide) ?_
  refine j_istore_n (lv' := [some (.ref (b + 198)), some (.int x1), some (.int 0), some (.int 0)]) X jd_Ki_dropOrdersOf_3 rfl (by decide) rfl ?_
  exact k_Ki_dropOrdersOf_4 hF hn X h
-- PleasureGarden$Sky.wetMinutes(II)I
theorem jd_Sk_wetMinutes_0 : decode jb_Sk_wetMinutes 0 = .ok (.iconst 0, 1) := by decide +kernel
theorem jd_Sk_wetMinutes_1 : decode jb_Sk_wetMinutes 1 = .ok (.istore_n 3, 1) := by decide +kernel
theorem jd_Sk_wetMinutes_2 : decode jb_Sk_wetMinutes 2 = .ok (.iload_n 1, 1) := by decide +kernel
theorem jd_Sk_wetMinutes_3 : decode jb_Sk_wetMinutes 3 = .ok (.istore 4, 2) := by decide +kernel
theorem jd_Sk_wetMinutes_5 : decode jb_Sk_wetMinutes 5 = .ok (.iload 4, 2) := by decide +kernel
theorem jd_Sk_wetMinutes_7 : decode jb_Sk_wetMinutes 7 = .ok (.iload_n 2, 1) := by decide +kernel
theorem jd_Sk_wetMinutes_8 : decode jb_Sk_wetMinutes 8 = .ok (.if_icmp .gt 26, 3) := by decide +kernel
theorem jd_Sk_wetMinutes_11 : decode jb_Sk_wetMinutes 11 = .ok (.iload_n 3, 1) := by decide +kernel
theorem jd_Sk_wetMinutes_12 : decode jb_Sk_wetMinutes 12 = .ok (.aload_n 0, 1) := by decide +kernel
theorem jd_Sk_wetMinutes_13 : decode jb_Sk_wetMinutes 13 = .ok (.iload 4, 2) := by decide +kernel
theorem jd_Sk_wetMinutes_15 : decode jb_Sk_wetMinutes 15 = .ok (.invokevirtual 23, 3) := by decide +kernel
theorem jd_Sk_wetMinutes_18 : decode jb_Sk_wetMinutes 18 = .ok (.ifCond .eq 7, 3) := by decide +kernel
theorem jd_Sk_wetMinutes_21 : decode jb_Sk_wetMinutes 21 = .ok (.iconst 1, 1) := by decide +kernel
theorem jd_Sk_wetMinutes_22 : decode jb_Sk_wetMinutes 22 = .ok (.goto 4, 3) := by decide +kernel
theorem jd_Sk_wetMinutes_25 : decode jb_Sk_wetMinutes 25 = .ok (.iconst 0, 1) := by decide +kernel
theorem jd_Sk_wetMinutes_26 : decode jb_Sk_wetMinutes 26 = .ok (.iadd, 1) := by decide +kernel
theorem jd_Sk_wetMinutes_27 : decode jb_Sk_wetMinutes 27 = .ok (.istore_n 3, 1) := by decide +kernel
theorem jd_Sk_wetMinutes_28 : decode jb_Sk_wetMinutes 28 = .ok (.iinc 4 1, 3) := by decide +kernel
theorem jd_Sk_wetMinutes_31 : decode jb_Sk_wetMinutes 31 = .ok (.goto (-26), 3) := by decide +kernel
theorem jd_Sk_wetMinutes_34 : decode jb_Sk_wetMinutes 34 = .ok (.iload_n 3, 1) := by decide +kernel
theorem jd_Sk_wetMinutes_35 : decode jb_Sk_wetMinutes 35 = .ok (.ireturn, 1) := by decide +kernel
def f_Sk_wetMinutes_26 (F : Nat) (kb5 : Int32 → Int32 → Int32 → j_M → Option (Int32 × j_M)) (x2 : Int32) (x4 : Int32) (s0 : Int32) (s1 : Int32) (I : j_M) : Option (Int32 × j_M) := j_let (s0 + s1) (fun v1 => j_let (x4 + 1) (fun v2 => kb5 x2 v1 v2 I))
def f_Sk_wetMinutes_5b (F : Nat) (kb5 : Int32 → Int32 → Int32 → j_M → Option (Int32 × j_M)) (x2 : Int32) (x3 : Int32) (x4 : Int32) (I : j_M) : Option (Int32 × j_M) := (if x2 < x4 then some (x3, I) else j_bd (f_Sk_rains F x4 I) (fun v3 I4 => (if v3 = 0 then f_Sk_wetMinutes_26 F kb5 x2 x4 x3 0 I4 else f_Sk_wetMinutes_26 F kb5 x2 x4 x3 1 I4)))
def f_Sk_wetMinutes_5 (F : Nat)  (x2 : Int32) (x3 : Int32) (x4 : Int32) (I : j_M) : Option (Int32 × j_M) := j_it (fun (again : Int32 × Int32 × Int32 × j_M → Option (Int32 × j_M)) (q : Int32 × Int32 × Int32 × j_M) => f_Sk_wetMinutes_5b F  (fun x2 x3 x4 I => again (x2, x3, x4, I))  q.1 q.2.1 q.2.2.1 q.2.2.2) F (x2, x3, x4, I)
def f_Sk_wetMinutes (F : Nat) (x1 : Int32) (x2 : Int32) (I : j_M) : Option (Int32 × j_M) := f_Sk_wetMinutes_5 F x2 0 x1 I
set_option maxRecDepth 100000 in
set_option maxHeartbeats 4000000 in
theorem k_Sk_wetMinutes_26 {p : Program} {l : Launch} {e : Env} {R : Room} {s : State} {m : MethodId} {args : Array Value} {below : List Frame} {meth : Method} {c : Code} {g : j_G} {b n : Nat} {P : j_R} {F : Nat} (hF : j_Fx 0 260 P) (hn : 260 ≤ n) (X : j_X p R s m args meth c g b 2 jb_Sk_wetMinutes 5 "PleasureGarden$Sky" (some .int)) {kb5 : Int32 → Int32 → Int32 → j_M → Option (Int32 × j_M)} (hkb5 : ∀ (x2 : Int32) (x3 : Int32) (x4 : Int32) (I : j_M) (r : Int32 × j_M), kb5 x2 x3 x4 I = some r → j_W p l e R s m args below meth c 5 g b n 0 0 (j_Qi g b n P below args s r) I P 5 [some (.ref (b + 38)), none, some (.int x2), some (.int x3), some (.int x4)] []) {x2 : Int32} {x4 : Int32} {s0 : Int32} {s1 : Int32} {I : j_M} {r : Int32 × j_M}  (h : f_Sk_wetMinutes_26 F kb5 x2 x4 s0 s1 I = some r) : j_W p l e R s m args below meth c 5 g b n 0 0 (j_Qi g b n P below args s r) I P 26 [some (.ref (b + 38)), none, some (.int x2), none, some (.int x4)] [.int s1, .int s0] := by
  unfold f_Sk_wetMinutes_26 at h
  refine j_iadd X jd_Sk_wetMinutes_26 ?_
  refine j_nm h (fun v1 h => ?_)
  refine j_istore_n (lv' := [some (.ref (b + 38)), none, some (.int x2), some (.int v1), some (.int x4)]) X jd_Sk_wetMinutes_27 rfl (by decide) rfl ?_
  obtain ⟨v2, ev2, h⟩ := j_ex h
  refine j_iinc (v := v2) (lv' := [some (.ref (b + 38)), none, some (.int x2), some (.int v1), some (.int v2)]) X jd_Sk_wetMinutes_28 rfl (by rw [ev2]; rfl) (by decide) rfl ?_
  refine j_goto (tgt := 5) X jd_Sk_wetMinutes_31 rfl ?_
  exact hkb5 _ _ _ _ _ h
set_option maxRecDepth 100000 in
set_option maxHeartbeats 4000000 in
theorem k_Sk_wetMinutes_5b {p : Program} {l : Launch} {e : Env} {R : Room} {s : State} {m : MethodId} {args : Array Value} {below : List Frame} {meth : Method} {c : Code} {g : j_G} {b n : Nat} {P : j_R} {F : Nat} (hF : j_Fx 0 260 P) (hn : 260 ≤ n) (X : j_X p R s m args meth c g b 2 jb_Sk_wetMinutes 5 "PleasureGarden$Sky" (some .int)) {kb5 : Int32 → Int32 → Int32 → j_M → Option (Int32 × j_M)} (hkb5 : ∀ (x2 : Int32) (x3 : Int32) (x4 : Int32) (I : j_M) (r : Int32 × j_M), kb5 x2 x3 x4 I = some r → j_W p l e R s m args below meth c 5 g b n 0 0 (j_Qi g b n P below args s r) I P 5 [some (.ref (b + 38)), none, some (.int x2), some (.int x3), some (.int x4)] []) {x2 : Int32} {x3 : Int32} {x4 : Int32} {I : j_M} {r : Int32 × j_M}  (h : f_Sk_wetMinutes_5b F kb5 x2 x3 x4 I = some r) : j_W p l e R s m args below meth c 5 g b n 0 0 (j_Qi g b n P below args s r) I P 5 [some (.ref (b + 38)), none, some (.int x2), some (.int x3), some (.int x4)] [] := by
  unfold f_Sk_wetMinutes_5b at h
  refine j_iload X jd_Sk_wetMinutes_5 rfl ?_
  refine j_iload_n X jd_Sk_wetMinutes_7 rfl rfl ?_
  refine j_icmp_gt (tgt := 34) X jd_Sk_wetMinutes_8 rfl h (fun h => ?_) (fun h => ?_)
  · refine j_iload_n X jd_Sk_wetMinutes_34 rfl rfl ?_
    exact j_iret X rfl jd_Sk_wetMinutes_35 h
  · refine j_iload_n X jd_Sk_wetMinutes_11 rfl rfl ?_
    refine j_aload_n X jd_Sk_wetMinutes_12 rfl rfl ?_
    refine j_iload X jd_Sk_wetMinutes_13 rfl ?_
    refine j_callVi (As := [.int x4]) (st := [.int x3]) (c0 := 38) X h jc_Sk js_38 (j_lt rfl hn) ⟨jqc_Sk_rains, jqi_Sk_rains, jqv_Sk_rains, jqn_Sk⟩ jlm_Sk_23 jh_Sk_rains rfl (by decide) (by decide) (Nat.le_of_ble_eq_true rfl) ⟨Nat.zero_le _, Nat.zero_le _⟩ (fun v0 I0 h => k_Sk_rains (r := (v0, I0)) hF hn h) jd_Sk_wetMinutes_15 rfl (fun v3 I4 h => ?_)
    refine j_if_eq (tgt := 25) X jd_Sk_wetMinutes_18 rfl h (fun h => ?_) (fun h => ?_)
    · refine j_iconst (v := 0) X jd_Sk_wetMinutes_25 (by decide) ?_
      refine j_sub [true, false, true, false, true] (lv' := [some (.ref (b + 38)), none, some (.int x2), none, some (.int x4)]) rfl ?_
      exact k_Sk_wetMinutes_26 hF hn X hkb5 h
    · refine j_iconst (v := 1) X jd_Sk_wetMinutes_21 (by decide) ?_
      refine j_goto (tgt := 26) X jd_Sk_wetMinutes_22 rfl ?_
      refine j_sub [true, false, true, false, true] (lv' := [some (.ref (b + 38)), none, some (.int x2), none, some (.int x4)]) rfl ?_
      exact k_Sk_wetMinutes_26 hF hn X hkb5 h
set_option maxRecDepth 100000 in
set_option maxHeartbeats 4000000 in
theorem k_Sk_wetMinutes_5 {p : Program} {l : Launch} {e : Env} {R : Room} {s : State} {m : MethodId} {args : Array Value} {below : List Frame} {meth : Method} {c : Code} {g : j_G} {b n : Nat} {P : j_R} {F : Nat} (hF : j_Fx 0 260 P) (hn : 260 ≤ n) (X : j_X p R s m args meth c g b 2 jb_Sk_wetMinutes 5 "PleasureGarden$Sky" (some .int))  {x2 : Int32} {x3 : Int32} {x4 : Int32} {I : j_M} {r : Int32 × j_M} (h : f_Sk_wetMinutes_5 F x2 x3 x4 I = some r) : j_W p l e R s m args below meth c 5 g b n 0 0 (j_Qi g b n P below args s r) I P 5 [some (.ref (b + 38)), none, some (.int x2), some (.int x3), some (.int x4)] [] := by
  refine j_loop (G := fun (q : Int32 × Int32 × Int32 × j_M) (r : Int32 × j_M) => j_W p l e R s m args below meth c 5 g b n 0 0 (j_Qi g b n P below args s r) q.2.2.2 P 5 [some (.ref (b + 38)), none, some (.int (q.1)), some (.int (q.2.1)), some (.int (q.2.2.1))] []) ?_ F (x2, x3, x4, I) r h
  intro again hrec0 q r h
  exact k_Sk_wetMinutes_5b hF hn X (fun x2 x3 x4 I r h => hrec0 (x2, x3, x4, I) r h)  h
set_option maxRecDepth 100000 in
set_option maxHeartbeats 4000000 in
theorem k_Sk_wetMinutes {l : Launch} {g : j_G} {b n : Nat} {P : j_R} {F : Nat} (hF : j_Fx 0 260 P) (hn : 260 ≤ n) {x1 : Int32} {x2 : Int32} {I : j_M} {r : Int32 × j_M}  (h : f_Sk_wetMinutes F x1 x2 I = some r) : j_Met l g b n P 2 jy_Sk_wetMinutes jb_Sk_wetMinutes 5 (some .int) [.ref (b + 38), .int x1, .int x2] I r.2 (some (.int r.1)) := by
  unfold f_Sk_wetMinutes at h
  refine j_enter (plainFor_of_name (by decide)) (Nat.le_of_ble_eq_true rfl) [some (.ref (b + 38)), some (.int x1), some (.int x2), none, none] rfl ?_
  intro p e R s m args below meth c X0 hnm hRc hRs
  have X : j_X p R s m args meth c g b 2 jb_Sk_wetMinutes 5 "PleasureGarden$Sky" (some .int) := X0
  clear X0
  refine j_iconst (v := 0) X jd_Sk_wetMinutes_0 (by decide) ?_
  refine j_istore_n (lv' := [some (.ref (b + 38)), some (.int x1), some (.int x2), some (.int 0), none]) X jd_Sk_wetMinutes_1 rfl (by decide) rfl ?_
  refine j_iload_n X jd_Sk_wetMinutes_2 rfl rfl ?_
  refine j_istore (lv' := [some (.ref (b + 38)), some (.int x1), some (.int x2), some (.int 0), some (.int x1)]) X jd_Sk_wetMinutes_3 (by decide) rfl ?_
  refine j_sub [true, false, true, true, true] (lv' := [some (.ref (b + 38)), none, some (.int x2), some (.int 0), some (.int x1)]) rfl ?_
  exact k_Sk_wetMinutes_5 hF hn X h
-- PleasureGarden$Kitchen.serveFirst()Z
theorem jd_Ki_serveFirst_0 : decode jb_Ki_serveFirst 0 = .ok (.aload_n 0, 1) := by decide +kernel
theorem jd_Ki_serveFirst_1 : decode jb_Ki_serveFirst 1 = .ok (.getfield 25, 3) := by decide +kernel
theorem jd_Ki_serveFirst_4 : decode jb_Ki_serveFirst 4 = .ok (.iconst 0, 1) := by decide +kernel
theorem jd_Ki_serveFirst_5 : decode jb_Ki_serveFirst 5 = .ok (.iaload, 1) := by decide +kernel
theorem jd_Ki_serveFirst_6 : decode jb_Ki_serveFirst 6 = .ok (.istore_n 1, 1) := by decide +kernel
theorem jd_Ki_serveFirst_7 : decode jb_Ki_serveFirst 7 = .ok (.aload_n 0, 1) := by decide +kernel
theorem jd_Ki_serveFirst_8 : decode jb_Ki_serveFirst 8 = .ok (.getfield 29, 3) := by decide +kernel
theorem jd_Ki_serveFirst_11 : decode jb_Ki_serveFirst 11 = .ok (.iconst 0, 1) := by decide +kernel
theorem jd_Ki_serveFirst_12 : decode jb_Ki_serveFirst 12 = .ok (.iaload, 1) := by decide +kernel
theorem jd_Ki_serveFirst_13 : decode jb_Ki_serveFirst 13 = .ok (.istore_n 2, 1) := by decide +kernel
theorem jd_Ki_serveFirst_14 : decode jb_Ki_serveFirst 14 = .ok (.aload_n 0, 1) := by decide +kernel
theorem jd_Ki_serveFirst_15 : decode jb_Ki_serveFirst 15 = .ok (.getfield 32, 3) := by decide +kernel
theorem jd_Ki_serveFirst_18 : decode jb_Ki_serveFirst 18 = .ok (.iconst 0, 1) := by decide +kernel
theorem jd_Ki_serveFirst_19 : decode jb_Ki_serveFirst 19 = .ok (.baload, 1) := by decide +kernel
theorem jd_Ki_serveFirst_20 : decode jb_Ki_serveFirst 20 = .ok (.istore_n 3, 1) := by decide +kernel
theorem jd_Ki_serveFirst_21 : decode jb_Ki_serveFirst 21 = .ok (.iload_n 2, 1) := by decide +kernel
theorem jd_Ki_serveFirst_22 : decode jb_Ki_serveFirst 22 = .ok (.aload_n 0, 1) := by decide +kernel
theorem jd_Ki_serveFirst_23 : decode jb_Ki_serveFirst 23 = .ok (.getfield 13, 3) := by decide +kernel
theorem jd_Ki_serveFirst_26 : decode jb_Ki_serveFirst 26 = .ok (.imul, 1) := by decide +kernel
theorem jd_Ki_serveFirst_27 : decode jb_Ki_serveFirst 27 = .ok (.istore 4, 2) := by decide +kernel
theorem jd_Ki_serveFirst_29 : decode jb_Ki_serveFirst 29 = .ok (.aload_n 0, 1) := by decide +kernel
theorem jd_Ki_serveFirst_30 : decode jb_Ki_serveFirst 30 = .ok (.invokevirtual 36, 3) := by decide +kernel
theorem jd_Ki_serveFirst_33 : decode jb_Ki_serveFirst 33 = .ok (.iload 4, 2) := by decide +kernel
theorem jd_Ki_serveFirst_35 : decode jb_Ki_serveFirst 35 = .ok (.aload_n 0, 1) := by decide +kernel
theorem jd_Ki_serveFirst_36 : decode jb_Ki_serveFirst 36 = .ok (.getfield 7, 3) := by decide +kernel
theorem jd_Ki_serveFirst_39 : decode jb_Ki_serveFirst 39 = .ok (.if_icmp .gt 26, 3) := by decide +kernel
theorem jd_Ki_serveFirst_42 : decode jb_Ki_serveFirst 42 = .ok (.aload_n 0, 1) := by decide +kernel
theorem jd_Ki_serveFirst_43 : decode jb_Ki_serveFirst 43 = .ok (.dup, 1) := by decide +kernel
theorem jd_Ki_serveFirst_44 : decode jb_Ki_serveFirst 44 = .ok (.getfield 7, 3) := by decide +kernel
theorem jd_Ki_serveFirst_47 : decode jb_Ki_serveFirst 47 = .ok (.iload 4, 2) := by decide +kernel
theorem jd_Ki_serveFirst_49 : decode jb_Ki_serveFirst 49 = .ok (.isub, 1) := by decide +kernel
theorem jd_Ki_serveFirst_50 : decode jb_Ki_serveFirst 50 = .ok (.putfield 7, 3) := by decide +kernel
theorem jd_Ki_serveFirst_53 : decode jb_Ki_serveFirst 53 = .ok (.aload_n 0, 1) := by decide +kernel
theorem jd_Ki_serveFirst_54 : decode jb_Ki_serveFirst 54 = .ok (.dup, 1) := by decide +kernel
theorem jd_Ki_serveFirst_55 : decode jb_Ki_serveFirst 55 = .ok (.getfield 19, 3) := by decide +kernel
theorem jd_Ki_serveFirst_58 : decode jb_Ki_serveFirst 58 = .ok (.iload_n 2, 1) := by decide +kernel
theorem jd_Ki_serveFirst_59 : decode jb_Ki_serveFirst 59 = .ok (.iadd, 1) := by decide +kernel
theorem jd_Ki_serveFirst_60 : decode jb_Ki_serveFirst 60 = .ok (.putfield 19, 3) := by decide +kernel
theorem jd_Ki_serveFirst_63 : decode jb_Ki_serveFirst 63 = .ok (.iconst 1, 1) := by decide +kernel
theorem jd_Ki_serveFirst_64 : decode jb_Ki_serveFirst 64 = .ok (.ireturn, 1) := by decide +kernel
theorem jd_Ki_serveFirst_65 : decode jb_Ki_serveFirst 65 = .ok (.iload_n 3, 1) := by decide +kernel
theorem jd_Ki_serveFirst_66 : decode jb_Ki_serveFirst 66 = .ok (.ifCond .ne 11, 3) := by decide +kernel
theorem jd_Ki_serveFirst_69 : decode jb_Ki_serveFirst 69 = .ok (.aload_n 0, 1) := by decide +kernel
theorem jd_Ki_serveFirst_70 : decode jb_Ki_serveFirst 70 = .ok (.iload_n 1, 1) := by decide +kernel
theorem jd_Ki_serveFirst_71 : decode jb_Ki_serveFirst 71 = .ok (.iload_n 2, 1) := by decide +kernel
theorem jd_Ki_serveFirst_72 : decode jb_Ki_serveFirst 72 = .ok (.iconst 1, 1) := by decide +kernel
theorem jd_Ki_serveFirst_73 : decode jb_Ki_serveFirst 73 = .ok (.invokevirtual 39, 3) := by decide +kernel
theorem jd_Ki_serveFirst_76 : decode jb_Ki_serveFirst 76 = .ok (.pop, 1) := by decide +kernel
theorem jd_Ki_serveFirst_77 : decode jb_Ki_serveFirst 77 = .ok (.iconst 0, 1) := by decide +kernel
theorem jd_Ki_serveFirst_78 : decode jb_Ki_serveFirst 78 = .ok (.ireturn, 1) := by decide +kernel
def f_Ki_serveFirst (F : Nat)  (I : j_M) : Option (Int32 × j_M) := (if j_ok 0 60 = true then j_let (I 199 (j_ix 0)) (fun v1 => (if j_ok 0 60 = true then j_let (I 200 (j_ix 0)) (fun v2 => (if j_ok 0 60 = true then j_let (I 201 (j_ix 0)) (fun v3 => j_let (v2 * (I 198 1)) (fun v4 => j_bd (f_Ki_removeFirst F I) (fun v5 I6 => (if (I6 198 0) < v4 then (if v3 = 0 then j_bd (f_Ki_append F v1 v2 1 I6) (fun v7 I8 => some (0, I8)) else some (0, I6)) else j_let (j_wr I6 198 0 ((I6 198 0) - v4)) (fun I9 => j_let (j_wr I9 198 3 ((I9 198 3) + v2)) (fun I10 => some (1, I10))))))) else none)) else none)) else none)
set_option maxRecDepth 100000 in
set_option maxHeartbeats 4000000 in
theorem k_Ki_serveFirst {l : Launch} {g : j_G} {b n : Nat} {P : j_R} {F : Nat} (hF : j_Fx 0 260 P) (hn : 260 ≤ n)  {I : j_M} {r : Int32 × j_M}  (h : f_Ki_serveFirst F I = some r) : j_Met l g b n P 2 jy_Ki_serveFirst jb_Ki_serveFirst 5 (some .boolean) [.ref (b + 198)] I r.2 (some (.int r.1)) := by
  unfold f_Ki_serveFirst at h
  refine j_enter (plainFor_of_name (by decide)) (Nat.le_of_ble_eq_true rfl) [some (.ref (b + 198)), none, none, none, none] rfl ?_
  intro p e R s m args below meth c X0 hnm hRc hRs
  have X : j_X p R s m args meth c g b 2 jb_Ki_serveFirst 5 "PleasureGarden$Kitchen" (some .boolean) := X0
  clear X0
  refine j_aload_n X jd_Ki_serveFirst_0 rfl rfl ?_
  refine j_getr X jf_Ki_25 jk_8_5 js_198 (j_lt rfl hn) (jp_198_5 hF) jd_Ki_serveFirst_1 ?_
  refine j_iconst (v := 0) X jd_Ki_serveFirst_4 (by decide) ?_
  refine j_iald X js_199 (j_lt rfl hn) jd_Ki_serveFirst_5 h (fun _ h => ?_)
  refine j_nm h (fun v1 h => ?_)
  refine j_istore_n (lv' := [some (.ref (b + 198)), some (.int v1), none, none, none]) X jd_Ki_serveFirst_6 rfl (by decide) rfl ?_
  refine j_aload_n X jd_Ki_serveFirst_7 rfl rfl ?_
  refine j_getr X jf_Ki_29 jk_8_6 js_198 (j_lt rfl hn) (jp_198_6 hF) jd_Ki_serveFirst_8 ?_
  refine j_iconst (v := 0) X jd_Ki_serveFirst_11 (by decide) ?_
  refine j_iald X js_200 (j_lt rfl hn) jd_Ki_serveFirst_12 h (fun _ h => ?_)
  refine j_nm h (fun v2 h => ?_)
  refine j_istore_n (lv' := [some (.ref (b + 198)), some (.int v1), some (.int v2), none, none]) X jd_Ki_serveFirst_13 rfl (by decide) rfl ?_
  refine j_aload_n X jd_Ki_serveFirst_14 rfl rfl ?_
  refine j_getr X jf_Ki_32 jk_8_7 js_198 (j_lt rfl hn) (jp_198_7 hF) jd_Ki_serveFirst_15 ?_
  refine j_iconst (v := 0) X jd_Ki_serveFirst_18 (by decide) ?_
  refine j_zald X js_201 (j_lt rfl hn) jd_Ki_serveFirst_19 h (fun _ h => ?_)
  refine j_nm h (fun v3 h => ?_)
  refine j_istore_n (lv' := [some (.ref (b + 198)), some (.int v1), some (.int v2), some (.int v3), none]) X jd_Ki_serveFirst_20 rfl (by decide) rfl ?_
  refine j_iload_n X jd_Ki_serveFirst_21 rfl rfl ?_
  refine j_aload_n X jd_Ki_serveFirst_22 rfl rfl ?_
  refine j_get X jf_Ki_13 jk_8_1 js_198 (j_lt rfl hn) jd_Ki_serveFirst_23 ?_
  refine j_imul X jd_Ki_serveFirst_26 ?_
  refine j_nm h (fun v4 h => ?_)
  refine j_istore (lv' := [some (.ref (b + 198)), some (.int v1), some (.int v2), some (.int v3), some (.int v4)]) X jd_Ki_serveFirst_27 (by decide) rfl ?_
  refine j_aload_n X jd_Ki_serveFirst_29 rfl rfl ?_
  refine j_callVv (As := []) (st := []) (c0 := 198) X h jc_Ki js_198 (j_lt rfl hn) ⟨jqc_Ki_removeFirst, jqi_Ki_removeFirst, jqv_Ki_removeFirst, jqn_Ki⟩ jlm_Ki_36 jh_Ki_removeFirst rfl (by decide) (by decide) (Nat.le_of_ble_eq_true rfl) ⟨Nat.zero_le _, Nat.zero_le _⟩ (fun v0 I0 h => k_Ki_removeFirst (r := (v0, I0)) hF hn h) jd_Ki_serveFirst_30 rfl (fun v5 I6 h => ?_)
  refine j_iload X jd_Ki_serveFirst_33 rfl ?_
  refine j_aload_n X jd_Ki_serveFirst_35 rfl rfl ?_
  refine j_get X jf_Ki_7 jk_8_0 js_198 (j_lt rfl hn) jd_Ki_serveFirst_36 ?_
  refine j_icmp_gt (tgt := 65) X jd_Ki_serveFirst_39 rfl h (fun h => ?_) (fun h => ?_)
  · refine j_iload_n X jd_Ki_serveFirst_65 rfl rfl ?_
    refine j_if_ne (tgt := 77) X jd_Ki_serveFirst_66 rfl h (fun h => ?_) (fun h => ?_)
    · refine j_aload_n X jd_Ki_serveFirst_69 rfl rfl ?_
      refine j_iload_n X jd_Ki_serveFirst_70 rfl rfl ?_
      refine j_iload_n X jd_Ki_serveFirst_71 rfl rfl ?_
      refine j_iconst (v := 1) X jd_Ki_serveFirst_72 (by decide) ?_
      refine j_callVi (As := [.int v1, .int v2, .int 1]) (st := []) (c0 := 198) X h jc_Ki js_198 (j_lt rfl hn) ⟨jqc_Ki_append, jqi_Ki_append, jqv_Ki_append, jqn_Ki⟩ jlm_Ki_39 jh_Ki_append rfl (by decide) (by decide) (Nat.le_of_ble_eq_true rfl) ⟨Nat.zero_le _, Nat.zero_le _⟩ (fun v0 I0 h => k_Ki_append (r := (v0, I0)) hF hn h) jd_Ki_serveFirst_73 rfl (fun v7 I8 h => ?_)
      refine j_pop X jd_Ki_serveFirst_76 rfl ?_
      refine j_iconst (v := 0) X jd_Ki_serveFirst_77 (by decide) ?_
      exact j_zret X rfl (by decide) jd_Ki_serveFirst_78 h
    · refine j_iconst (v := 0) X jd_Ki_serveFirst_77 (by decide) ?_
      exact j_zret X rfl (by decide) jd_Ki_serveFirst_78 h
  · refine j_aload_n X jd_Ki_serveFirst_42 rfl rfl ?_
    refine j_dup X jd_Ki_serveFirst_43 rfl ?_
    refine j_get X jf_Ki_7 jk_8_0 js_198 (j_lt rfl hn) jd_Ki_serveFirst_44 ?_
    refine j_iload X jd_Ki_serveFirst_47 rfl ?_
    refine j_isub X jd_Ki_serveFirst_49 ?_
    refine j_puti X jt_Ki jto_Ki jn_Ki jf_Ki_7 jk_8_0 js_198 (j_lt rfl hn) (Or.inl rfl) rfl jd_Ki_serveFirst_50 ?_
    refine j_mem h (fun I9 h => ?_)
    refine j_aload_n X jd_Ki_serveFirst_53 rfl rfl ?_
    refine j_dup X jd_Ki_serveFirst_54 rfl ?_
    refine j_get X jf_Ki_19 jk_8_3 js_198 (j_lt rfl hn) jd_Ki_serveFirst_55 ?_
    refine j_iload_n X jd_Ki_serveFirst_58 rfl rfl ?_
    refine j_iadd X jd_Ki_serveFirst_59 ?_
    refine j_puti X jt_Ki jto_Ki jn_Ki jf_Ki_19 jk_8_3 js_198 (j_lt rfl hn) (Or.inl rfl) rfl jd_Ki_serveFirst_60 ?_
    refine j_mem h (fun I10 h => ?_)
    refine j_iconst (v := 1) X jd_Ki_serveFirst_63 (by decide) ?_
    exact j_zret X rfl (by decide) jd_Ki_serveFirst_64 h
