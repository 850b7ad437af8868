-- java/lang/Math.floorDiv(JJ)J
theorem jd_Ma_floorDiv_0 : decode jb_Ma_floorDiv 0 = .ok (.lload_n 0, 1) := by decide +kernel
theorem jd_Ma_floorDiv_1 : decode jb_Ma_floorDiv 1 = .ok (.lload_n 2, 1) := by decide +kernel
theorem jd_Ma_floorDiv_2 : decode jb_Ma_floorDiv 2 = .ok (.ldiv, 1) := by decide +kernel
theorem jd_Ma_floorDiv_3 : decode jb_Ma_floorDiv 3 = .ok (.lstore 4, 2) := by decide +kernel
theorem jd_Ma_floorDiv_5 : decode jb_Ma_floorDiv 5 = .ok (.lload_n 0, 1) := by decide +kernel
theorem jd_Ma_floorDiv_6 : decode jb_Ma_floorDiv 6 = .ok (.lload_n 2, 1) := by decide +kernel
theorem jd_Ma_floorDiv_7 : decode jb_Ma_floorDiv 7 = .ok (.lxor, 1) := by decide +kernel
theorem jd_Ma_floorDiv_8 : decode jb_Ma_floorDiv 8 = .ok (.lconst 0, 1) := by decide +kernel
theorem jd_Ma_floorDiv_9 : decode jb_Ma_floorDiv 9 = .ok (.lcmp, 1) := by decide +kernel
theorem jd_Ma_floorDiv_10 : decode jb_Ma_floorDiv 10 = .ok (.ifCond .ge 17, 3) := by decide +kernel
theorem jd_Ma_floorDiv_13 : decode jb_Ma_floorDiv 13 = .ok (.lload 4, 2) := by decide +kernel
theorem jd_Ma_floorDiv_15 : decode jb_Ma_floorDiv 15 = .ok (.lload_n 2, 1) := by decide +kernel
theorem jd_Ma_floorDiv_16 : decode jb_Ma_floorDiv 16 = .ok (.lmul, 1) := by decide +kernel
theorem jd_Ma_floorDiv_17 : decode jb_Ma_floorDiv 17 = .ok (.lload_n 0, 1) := by decide +kernel
theorem jd_Ma_floorDiv_18 : decode jb_Ma_floorDiv 18 = .ok (.lcmp, 1) := by decide +kernel
theorem jd_Ma_floorDiv_19 : decode jb_Ma_floorDiv 19 = .ok (.ifCond .eq 8, 3) := by decide +kernel
theorem jd_Ma_floorDiv_22 : decode jb_Ma_floorDiv 22 = .ok (.lload 4, 2) := by decide +kernel
theorem jd_Ma_floorDiv_24 : decode jb_Ma_floorDiv 24 = .ok (.lconst 1, 1) := by decide +kernel
theorem jd_Ma_floorDiv_25 : decode jb_Ma_floorDiv 25 = .ok (.lsub, 1) := by decide +kernel
theorem jd_Ma_floorDiv_26 : decode jb_Ma_floorDiv 26 = .ok (.lreturn, 1) := by decide +kernel
theorem jd_Ma_floorDiv_27 : decode jb_Ma_floorDiv 27 = .ok (.lload 4, 2) := by decide +kernel
theorem jd_Ma_floorDiv_29 : decode jb_Ma_floorDiv 29 = .ok (.lreturn, 1) := by decide +kernel
def f_Ma_floorDiv (F : Nat) (x0 : Int64) (x2 : Int64) (I : j_M) : Option (Int64 × j_M) := (if x2 = 0 then none else j_let (x0 / x2) (fun w1 => (if 0 ≤ (lg_cmp (x0 ^^^ x2) 0) then some (w1, I) else (if (lg_cmp (w1 * x2) x0) = 0 then some (w1, I) else some (w1 - 1, I)))))
set_option maxRecDepth 100000 in
set_option maxHeartbeats 4000000 in
theorem k_Ma_floorDiv {l : Launch} {g : j_G} {b n : Nat} {P : j_R} {F : Nat} (hF : j_Fx 0 260 P) (hn : 260 ≤ n) {x0 : Int64} {x2 : Int64} {I : j_M} {r : Int64 × j_M}  (h : f_Ma_floorDiv F x0 x2 I = some r) : j_Met l g b n P 0 jy_Ma_floorDiv jb_Ma_floorDiv 6 (some .long) [.long x0, .long x2] I r.2 (some (.long r.1)) := by
  unfold f_Ma_floorDiv at h
  refine j_enter (by decide +kernel) (Nat.le_of_ble_eq_true rfl) [some (.long x0), none, some (.long x2), none, none, none] rfl ?_
  intro p e R s m args below meth c X0 hnm hRc hRs
  have X : j_X p R s m args meth c g b 0 jb_Ma_floorDiv 6 "java/lang/Math" (some .long) := X0
  clear X0
  refine j_lload_n X jd_Ma_floorDiv_0 rfl rfl ?_
  refine j_lload_n X jd_Ma_floorDiv_1 rfl rfl ?_
  refine j_ldiv X jd_Ma_floorDiv_2 h (fun h => ?_)
  refine j_nml h (fun w1 h => ?_)
  refine j_lstore (lv' := [some (.long x0), none, some (.long x2), none, some (.long w1), none]) X jd_Ma_floorDiv_3 (by decide) rfl ?_
  refine j_lload_n X jd_Ma_floorDiv_5 rfl rfl ?_
  refine j_lload_n X jd_Ma_floorDiv_6 rfl rfl ?_
  refine j_lxor X jd_Ma_floorDiv_7 ?_
  refine j_lconst (v := 0) X jd_Ma_floorDiv_8 (by decide) ?_
  refine j_lcmp X jd_Ma_floorDiv_9 ?_
  refine j_if_ge (tgt := 27) X jd_Ma_floorDiv_10 rfl h (fun h => ?_) (fun h => ?_)
  · refine j_lload X jd_Ma_floorDiv_27 rfl ?_
    exact j_lret X rfl jd_Ma_floorDiv_29 h
  · refine j_lload X jd_Ma_floorDiv_13 rfl ?_
    refine j_lload_n X jd_Ma_floorDiv_15 rfl rfl ?_
    refine j_lmul X jd_Ma_floorDiv_16 ?_
    refine j_lload_n X jd_Ma_floorDiv_17 rfl rfl ?_
    refine j_lcmp X jd_Ma_floorDiv_18 ?_
    refine j_if_eq (tgt := 27) X jd_Ma_floorDiv_19 rfl h (fun h => ?_) (fun h => ?_)
    · refine j_lload X jd_Ma_floorDiv_27 rfl ?_
      exact j_lret X rfl jd_Ma_floorDiv_29 h
    · refine j_lload X jd_Ma_floorDiv_22 rfl ?_
      refine j_lconst (v := 1) X jd_Ma_floorDiv_24 (by decide) ?_
      refine j_lsub X jd_Ma_floorDiv_25 ?_
      exact j_lret X rfl jd_Ma_floorDiv_26 h
-- java/lang/String.coder()B
theorem jd_St_coder_0 : decode jb_St_coder 0 = .ok (.getstatic 38, 3) := by decide +kernel
theorem jd_St_coder_3 : decode jb_St_coder 3 = .ok (.ifCond .eq 10, 3) := by decide +kernel
theorem jd_St_coder_6 : decode jb_St_coder 6 = .ok (.aload_n 0, 1) := by decide +kernel
theorem jd_St_coder_7 : decode jb_St_coder 7 = .ok (.getfield 15, 3) := by decide +kernel
theorem jd_St_coder_10 : decode jb_St_coder 10 = .ok (.goto 4, 3) := by decide +kernel
theorem jd_St_coder_13 : decode jb_St_coder 13 = .ok (.iconst 1, 1) := by decide +kernel
theorem jd_St_coder_14 : decode jb_St_coder 14 = .ok (.ireturn, 1) := by decide +kernel
def f_St_coder (F : Nat)  (I : j_M) : Option (Int32 × j_M) := (if (1 : Int32) = 0 then some (1, I) else some (0, I))
set_option maxRecDepth 100000 in
set_option maxHeartbeats 4000000 in
theorem k_St_coder {l : Launch} {g : j_G} {b n : Nat} {P : j_R} {F : Nat} (hF : j_Fx 0 260 P) (hn : 260 ≤ n)  {I : j_M} {r : Int32 × j_M}  (h : f_St_coder F I = some r) : j_Met l g b n P 0 jy_St_coder jb_St_coder 1 (some .byte) [.ref g.2.2.1] I r.2 (some (.int r.1)) := by
  unfold f_St_coder at h
  refine j_enter (plainFor_of_name (by decide)) (Nat.le_of_ble_eq_true rfl) [some (.ref g.2.2.1)] rfl ?_
  intro p e R s m args below meth c X0 hnm hRc hRs
  have X : j_X p R s m args meth c g b 0 jb_St_coder 1 "java/lang/String" (some .byte) := X0
  clear X0
  refine j_gets X jlf_St_38 jd_St_coder_0 ?_
  refine j_if_eq (tgt := 13) X jd_St_coder_3 rfl h (fun h => ?_) (fun h => ?_)
  · refine j_iconst (v := 1) X jd_St_coder_13 (by decide) ?_
    exact j_bret X rfl (by decide) jd_St_coder_14 h
  · refine j_aload_n X jd_St_coder_6 rfl rfl ?_
    refine j_scod X jlf_St_15 jd_St_coder_7 ?_
    refine j_goto (tgt := 14) X jd_St_coder_10 rfl ?_
    exact j_bret X rfl (by decide) jd_St_coder_14 h
-- java/lang/String.isLatin1()Z
theorem jd_St_isLatin1_0 : decode jb_St_isLatin1 0 = .ok (.getstatic 38, 3) := by decide +kernel
theorem jd_St_isLatin1_3 : decode jb_St_isLatin1 3 = .ok (.ifCond .eq 14, 3) := by decide +kernel
theorem jd_St_isLatin1_6 : decode jb_St_isLatin1 6 = .ok (.aload_n 0, 1) := by decide +kernel
theorem jd_St_isLatin1_7 : decode jb_St_isLatin1 7 = .ok (.getfield 15, 3) := by decide +kernel
theorem jd_St_isLatin1_10 : decode jb_St_isLatin1 10 = .ok (.ifCond .ne 7, 3) := by decide +kernel
theorem jd_St_isLatin1_13 : decode jb_St_isLatin1 13 = .ok (.iconst 1, 1) := by decide +kernel
theorem jd_St_isLatin1_14 : decode jb_St_isLatin1 14 = .ok (.goto 4, 3) := by decide +kernel
theorem jd_St_isLatin1_17 : decode jb_St_isLatin1 17 = .ok (.iconst 0, 1) := by decide +kernel
theorem jd_St_isLatin1_18 : decode jb_St_isLatin1 18 = .ok (.ireturn, 1) := by decide +kernel
def f_St_isLatin1 (F : Nat)  (I : j_M) : Option (Int32 × j_M) := (if (1 : Int32) = 0 then some (0, I) else (if (0 : Int32) = 0 then some (1, I) else some (0, I)))
set_option maxRecDepth 100000 in
set_option maxHeartbeats 4000000 in
theorem k_St_isLatin1 {l : Launch} {g : j_G} {b n : Nat} {P : j_R} {F : Nat} (hF : j_Fx 0 260 P) (hn : 260 ≤ n)  {I : j_M} {r : Int32 × j_M}  (h : f_St_isLatin1 F I = some r) : j_Met l g b n P 0 jy_St_isLatin1 jb_St_isLatin1 1 (some .boolean) [.ref g.2.2.1] I r.2 (some (.int r.1)) := by
  unfold f_St_isLatin1 at h
  refine j_enter (plainFor_of_name (by decide)) (Nat.le_of_ble_eq_true rfl) [some (.ref g.2.2.1)] rfl ?_
  intro p e R s m args below meth c X0 hnm hRc hRs
  have X : j_X p R s m args meth c g b 0 jb_St_isLatin1 1 "java/lang/String" (some .boolean) := X0
  clear X0
  refine j_gets X jlf_St_38 jd_St_isLatin1_0 ?_
  refine j_if_eq (tgt := 17) X jd_St_isLatin1_3 rfl h (fun h => ?_) (fun h => ?_)
  · refine j_iconst (v := 0) X jd_St_isLatin1_17 (by decide) ?_
    exact j_zret X rfl (by decide) jd_St_isLatin1_18 h
  · refine j_aload_n X jd_St_isLatin1_6 rfl rfl ?_
    refine j_scod X jlf_St_15 jd_St_isLatin1_7 ?_
    refine j_if_ne (tgt := 17) X jd_St_isLatin1_10 rfl h (fun h => ?_) (fun h => ?_)
    · refine j_iconst (v := 1) X jd_St_isLatin1_13 (by decide) ?_
      refine j_goto (tgt := 18) X jd_St_isLatin1_14 rfl ?_
      exact j_zret X rfl (by decide) jd_St_isLatin1_18 h
    · refine j_iconst (v := 0) X jd_St_isLatin1_17 (by decide) ?_
      exact j_zret X rfl (by decide) jd_St_isLatin1_18 h
-- java/lang/StringLatin1.canEncode(I)Z
theorem jd_Sl_canEncode_0 : decode jb_Sl_canEncode 0 = .ok (.iload_n 0, 1) := by decide +kernel
theorem jd_Sl_canEncode_1 : decode jb_Sl_canEncode 1 = .ok (.ifCond .lt 14, 3) := by decide +kernel
theorem jd_Sl_canEncode_4 : decode jb_Sl_canEncode 4 = .ok (.iload_n 0, 1) := by decide +kernel
theorem jd_Sl_canEncode_5 : decode jb_Sl_canEncode 5 = .ok (.sipush 255, 3) := by decide +kernel
theorem jd_Sl_canEncode_8 : decode jb_Sl_canEncode 8 = .ok (.if_icmp .gt 7, 3) := by decide +kernel
theorem jd_Sl_canEncode_11 : decode jb_Sl_canEncode 11 = .ok (.iconst 1, 1) := by decide +kernel
theorem jd_Sl_canEncode_12 : decode jb_Sl_canEncode 12 = .ok (.goto 4, 3) := by decide +kernel
theorem jd_Sl_canEncode_15 : decode jb_Sl_canEncode 15 = .ok (.iconst 0, 1) := by decide +kernel
theorem jd_Sl_canEncode_16 : decode jb_Sl_canEncode 16 = .ok (.ireturn, 1) := by decide +kernel
def f_Sl_canEncode (F : Nat) (x0 : Int32) (I : j_M) : Option (Int32 × j_M) := (if x0 < 0 then some (0, I) else (if 255 < x0 then some (0, I) else some (1, I)))
set_option maxRecDepth 100000 in
set_option maxHeartbeats 4000000 in
theorem k_Sl_canEncode {l : Launch} {g : j_G} {b n : Nat} {P : j_R} {F : Nat} (hF : j_Fx 0 260 P) (hn : 260 ≤ n) {x0 : Int32} {I : j_M} {r : Int32 × j_M}  (h : f_Sl_canEncode F x0 I = some r) : j_Met l g b n P 0 jy_Sl_canEncode jb_Sl_canEncode 1 (some .boolean) [.int x0] I r.2 (some (.int r.1)) := by
  unfold f_Sl_canEncode at h
  refine j_enter (plainFor_of_name (by decide)) (Nat.le_of_ble_eq_true rfl) [some (.int x0)] rfl ?_
  intro p e R s m args below meth c X0 hnm hRc hRs
  have X : j_X p R s m args meth c g b 0 jb_Sl_canEncode 1 "java/lang/StringLatin1" (some .boolean) := X0
  clear X0
  refine j_iload_n X jd_Sl_canEncode_0 rfl rfl ?_
  refine j_if_lt (tgt := 15) X jd_Sl_canEncode_1 rfl h (fun h => ?_) (fun h => ?_)
  · refine j_iconst (v := 0) X jd_Sl_canEncode_15 (by decide) ?_
    exact j_zret X rfl (by decide) jd_Sl_canEncode_16 h
  · refine j_iload_n X jd_Sl_canEncode_4 rfl rfl ?_
    refine j_sipush (v := 255) X jd_Sl_canEncode_5 (by decide) ?_
    refine j_icmp_gt (tgt := 15) X jd_Sl_canEncode_8 rfl h (fun h => ?_) (fun h => ?_)
    · refine j_iconst (v := 0) X jd_Sl_canEncode_15 (by decide) ?_
      exact j_zret X rfl (by decide) jd_Sl_canEncode_16 h
    · refine j_iconst (v := 1) X jd_Sl_canEncode_11 (by decide) ?_
      refine j_goto (tgt := 16) X jd_Sl_canEncode_12 rfl ?_
      exact j_zret X rfl (by decide) jd_Sl_canEncode_16 h
-- java/lang/StringLatin1.indexOfChar([BIII)I
theorem jd_Sl_indexOfChar_0 : decode jb_Sl_indexOfChar 0 = .ok (.iload_n 1, 1) := by decide +kernel
theorem jd_Sl_indexOfChar_1 : decode jb_Sl_indexOfChar 1 = .ok (.i2b, 1) := by decide +kernel
theorem jd_Sl_indexOfChar_2 : decode jb_Sl_indexOfChar 2 = .ok (.istore 4, 2) := by decide +kernel
theorem jd_Sl_indexOfChar_4 : decode jb_Sl_indexOfChar 4 = .ok (.iload_n 2, 1) := by decide +kernel
theorem jd_Sl_indexOfChar_5 : decode jb_Sl_indexOfChar 5 = .ok (.istore 5, 2) := by decide +kernel
theorem jd_Sl_indexOfChar_7 : decode jb_Sl_indexOfChar 7 = .ok (.iload 5, 2) := by decide +kernel
theorem jd_Sl_indexOfChar_9 : decode jb_Sl_indexOfChar 9 = .ok (.iload_n 3, 1) := by decide +kernel
theorem jd_Sl_indexOfChar_10 : decode jb_Sl_indexOfChar 10 = .ok (.if_icmp .ge 21, 3) := by decide +kernel
theorem jd_Sl_indexOfChar_13 : decode jb_Sl_indexOfChar 13 = .ok (.aload_n 0, 1) := by decide +kernel
theorem jd_Sl_indexOfChar_14 : decode jb_Sl_indexOfChar 14 = .ok (.iload 5, 2) := by decide +kernel
theorem jd_Sl_indexOfChar_16 : decode jb_Sl_indexOfChar 16 = .ok (.baload, 1) := by decide +kernel
theorem jd_Sl_indexOfChar_17 : decode jb_Sl_indexOfChar 17 = .ok (.iload 4, 2) := by decide +kernel
theorem jd_Sl_indexOfChar_19 : decode jb_Sl_indexOfChar 19 = .ok (.if_icmp .ne 6, 3) := by decide +kernel
theorem jd_Sl_indexOfChar_22 : decode jb_Sl_indexOfChar 22 = .ok (.iload 5, 2) := by decide +kernel
theorem jd_Sl_indexOfChar_24 : decode jb_Sl_indexOfChar 24 = .ok (.ireturn, 1) := by decide +kernel
theorem jd_Sl_indexOfChar_25 : decode jb_Sl_indexOfChar 25 = .ok (.iinc 5 1, 3) := by decide +kernel
theorem jd_Sl_indexOfChar_28 : decode jb_Sl_indexOfChar 28 = .ok (.goto (-21), 3) := by decide +kernel
theorem jd_Sl_indexOfChar_31 : decode jb_Sl_indexOfChar 31 = .ok (.iconst (-1), 1) := by decide +kernel
theorem jd_Sl_indexOfChar_32 : decode jb_Sl_indexOfChar 32 = .ok (.ireturn, 1) := by decide +kernel
def f_Sl_indexOfChar_7b (F : Nat) (kb7 : Int32 → Int32 → Int32 → j_M → Option (Int32 × j_M)) (x3 : Int32) (x4 : Int32) (x5 : Int32) (I : j_M) : Option (Int32 × j_M) := (if x3 ≤ x5 then some ((-1), I) else (if j_ok x5 8 = true then (if (j_tx (j_ix x5)) = x4 then some (x5, I) else j_let (x5 + 1) (fun v1 => kb7 x3 x4 v1 I)) else none))
def f_Sl_indexOfChar_7 (F : Nat)  (x3 : Int32) (x4 : Int32) (x5 : Int32) (I : j_M) : Option (Int32 × j_M) := j_it (fun (again : Int32 × Int32 × Int32 × j_M → Option (Int32 × j_M)) (q : Int32 × Int32 × Int32 × j_M) => f_Sl_indexOfChar_7b F  (fun x3 x4 x5 I => again (x3, x4, x5, I))  q.1 q.2.1 q.2.2.1 q.2.2.2) F (x3, x4, x5, I)
def f_Sl_indexOfChar (F : Nat) (x1 : Int32) (x2 : Int32) (x3 : Int32) (I : j_M) : Option (Int32 × j_M) := j_let (x1.toInt8.toInt32) (fun v2 => f_Sl_indexOfChar_7 F x3 v2 x2 I)
set_option maxRecDepth 100000 in
set_option maxHeartbeats 4000000 in
theorem k_Sl_indexOfChar_7b {p : Program} {l : Launch} {e : Env} {R : Room} {s : State} {m : MethodId} {args : Array Value} {below : List Frame} {meth : Method} {c : Code} {g : j_G} {b n : Nat} {P : j_R} {F : Nat} (hF : j_Fx 0 260 P) (hn : 260 ≤ n) (X : j_X p R s m args meth c g b 0 jb_Sl_indexOfChar 6 "java/lang/StringLatin1" (some .int)) {kb7 : Int32 → Int32 → Int32 → j_M → Option (Int32 × j_M)} (hkb7 : ∀ (x3 : Int32) (x4 : Int32) (x5 : Int32) (I : j_M) (r : Int32 × j_M), kb7 x3 x4 x5 I = some r → j_W p l e R s m args below meth c 6 g b n 0 0 (j_Qi g b n P below args s r) I P 7 [some (.ref g.2.2.2.1), none, none, some (.int x3), some (.int x4), some (.int x5)] []) {x3 : Int32} {x4 : Int32} {x5 : Int32} {I : j_M} {r : Int32 × j_M}  (h : f_Sl_indexOfChar_7b F kb7 x3 x4 x5 I = some r) : j_W p l e R s m args below meth c 6 g b n 0 0 (j_Qi g b n P below args s r) I P 7 [some (.ref g.2.2.2.1), none, none, some (.int x3), some (.int x4), some (.int x5)] [] := by
  unfold f_Sl_indexOfChar_7b at h
  refine j_iload X jd_Sl_indexOfChar_7 rfl ?_
  refine j_iload_n X jd_Sl_indexOfChar_9 rfl rfl ?_
  refine j_icmp_ge (tgt := 31) X jd_Sl_indexOfChar_10 rfl h (fun h => ?_) (fun h => ?_)
  · refine j_iconst (v := (-1)) X jd_Sl_indexOfChar_31 (by decide) ?_
    exact j_iret X rfl jd_Sl_indexOfChar_32 h
  · refine j_aload_n X jd_Sl_indexOfChar_13 rfl rfl ?_
    refine j_iload X jd_Sl_indexOfChar_14 rfl ?_
    refine j_sbald X jd_Sl_indexOfChar_16 h (fun _ h => ?_)
    refine j_iload X jd_Sl_indexOfChar_17 rfl ?_
    refine j_icmp_ne (tgt := 25) X jd_Sl_indexOfChar_19 rfl h (fun h => ?_) (fun h => ?_)
    · refine j_iload X jd_Sl_indexOfChar_22 rfl ?_
      exact j_iret X rfl jd_Sl_indexOfChar_24 h
    · obtain ⟨v1, ev1, h⟩ := j_ex h
      refine j_iinc (v := v1) (lv' := [some (.ref g.2.2.2.1), none, none, some (.int x3), some (.int x4), some (.int v1)]) X jd_Sl_indexOfChar_25 rfl (by rw [ev1]; rfl) (by decide) rfl ?_
      refine j_goto (tgt := 7) X jd_Sl_indexOfChar_28 rfl ?_
      exact hkb7 _ _ _ _ _ h
set_option maxRecDepth 100000 in
set_option maxHeartbeats 4000000 in
theorem k_Sl_indexOfChar_7 {p : Program} {l : Launch} {e : Env} {R : Room} {s : State} {m : MethodId} {args : Array Value} {below : List Frame} {meth : Method} {c : Code} {g : j_G} {b n : Nat} {P : j_R} {F : Nat} (hF : j_Fx 0 260 P) (hn : 260 ≤ n) (X : j_X p R s m args meth c g b 0 jb_Sl_indexOfChar 6 "java/lang/StringLatin1" (some .int))  {x3 : Int32} {x4 : Int32} {x5 : Int32} {I : j_M} {r : Int32 × j_M} (h : f_Sl_indexOfChar_7 F x3 x4 x5 I = some r) : j_W p l e R s m args below meth c 6 g b n 0 0 (j_Qi g b n P below args s r) I P 7 [some (.ref g.2.2.2.1), none, none, some (.int x3), some (.int x4), some (.int x5)] [] := by
  refine j_loop (G := fun (q : Int32 × Int32 × Int32 × j_M) (r : Int32 × j_M) => j_W p l e R s m args below meth c 6 g b n 0 0 (j_Qi g b n P below args s r) q.2.2.2 P 7 [some (.ref g.2.2.2.1), none, none, some (.int (q.1)), some (.int (q.2.1)), some (.int (q.2.2.1))] []) ?_ F (x3, x4, x5, I) r h
  intro again hrec0 q r h
  exact k_Sl_indexOfChar_7b hF hn X (fun x3 x4 x5 I r h => hrec0 (x3, x4, x5, I) r h)  h
set_option maxRecDepth 100000 in
set_option maxHeartbeats 4000000 in
theorem k_Sl_indexOfChar {l : Launch} {g : j_G} {b n : Nat} {P : j_R} {F : Nat} (hF : j_Fx 0 260 P) (hn : 260 ≤ n) {x1 : Int32} {x2 : Int32} {x3 : Int32} {I : j_M} {r : Int32 × j_M}  (h : f_Sl_indexOfChar F x1 x2 x3 I = some r) : j_Met l g b n P 0 jy_Sl_indexOfChar jb_Sl_indexOfChar 6 (some .int) [.ref g.2.2.2.1, .int x1, .int x2, .int x3] I r.2 (some (.int r.1)) := by
  unfold f_Sl_indexOfChar at h
  refine j_enter (plainFor_of_name (by decide)) (Nat.le_of_ble_eq_true rfl) [some (.ref g.2.2.2.1), some (.int x1), some (.int x2), some (.int x3), none, none] rfl ?_
  intro p e R s m args below meth c X0 hnm hRc hRs
  have X : j_X p R s m args meth c g b 0 jb_Sl_indexOfChar 6 "java/lang/StringLatin1" (some .int) := X0
  clear X0
  refine j_iload_n X jd_Sl_indexOfChar_0 rfl rfl ?_
  refine j_i2b X jd_Sl_indexOfChar_1 ?_
  refine j_nm h (fun v2 h => ?_)
  refine j_istore (lv' := [some (.ref g.2.2.2.1), some (.int x1), some (.int x2), some (.int x3), some (.int v2), none]) X jd_Sl_indexOfChar_2 (by decide) rfl ?_
  refine j_iload_n X jd_Sl_indexOfChar_4 rfl rfl ?_
  refine j_istore (lv' := [some (.ref g.2.2.2.1), some (.int x1), some (.int x2), some (.int x3), some (.int v2), some (.int x2)]) X jd_Sl_indexOfChar_5 (by decide) rfl ?_
  refine j_sub [true, false, false, true, true, true] (lv' := [some (.ref g.2.2.2.1), none, none, some (.int x3), some (.int v2), some (.int x2)]) rfl ?_
  exact k_Sl_indexOfChar_7 hF hn X h
-- PleasureGarden$Ledger.meanNearest(I)I
theorem jd_Le_meanNearest_0 : decode jb_Le_meanNearest 0 = .ok (.sipush 481, 3) := by decide +kernel
theorem jd_Le_meanNearest_3 : decode jb_Le_meanNearest 3 = .ok (.istore_n 2, 1) := by decide +kernel
theorem jd_Le_meanNearest_4 : decode jb_Le_meanNearest 4 = .ok (.lconst 0, 1) := by decide +kernel
theorem jd_Le_meanNearest_5 : decode jb_Le_meanNearest 5 = .ok (.lstore_n 3, 1) := by decide +kernel
theorem jd_Le_meanNearest_6 : decode jb_Le_meanNearest 6 = .ok (.iconst 0, 1) := by decide +kernel
theorem jd_Le_meanNearest_7 : decode jb_Le_meanNearest 7 = .ok (.istore 5, 2) := by decide +kernel
theorem jd_Le_meanNearest_9 : decode jb_Le_meanNearest 9 = .ok (.iconst 0, 1) := by decide +kernel
theorem jd_Le_meanNearest_10 : decode jb_Le_meanNearest 10 = .ok (.istore 6, 2) := by decide +kernel
theorem jd_Le_meanNearest_12 : decode jb_Le_meanNearest 12 = .ok (.iload 6, 2) := by decide +kernel
theorem jd_Le_meanNearest_14 : decode jb_Le_meanNearest 14 = .ok (.aload_n 0, 1) := by decide +kernel
theorem jd_Le_meanNearest_15 : decode jb_Le_meanNearest 15 = .ok (.getfield 9, 3) := by decide +kernel
theorem jd_Le_meanNearest_18 : decode jb_Le_meanNearest 18 = .ok (.if_icmp .ge 57, 3) := by decide +kernel
theorem jd_Le_meanNearest_21 : decode jb_Le_meanNearest 21 = .ok (.aload_n 0, 1) := by decide +kernel
theorem jd_Le_meanNearest_22 : decode jb_Le_meanNearest 22 = .ok (.getfield 19, 3) := by decide +kernel
theorem jd_Le_meanNearest_25 : decode jb_Le_meanNearest 25 = .ok (.iload 6, 2) := by decide +kernel
theorem jd_Le_meanNearest_27 : decode jb_Le_meanNearest 27 = .ok (.iaload, 1) := by decide +kernel
theorem jd_Le_meanNearest_28 : decode jb_Le_meanNearest 28 = .ok (.iload_n 1, 1) := by decide +kernel
theorem jd_Le_meanNearest_29 : decode jb_Le_meanNearest 29 = .ok (.isub, 1) := by decide +kernel
theorem jd_Le_meanNearest_30 : decode jb_Le_meanNearest 30 = .ok (.invokestatic 25, 3) := by decide +kernel
theorem jd_Le_meanNearest_33 : decode jb_Le_meanNearest 33 = .ok (.istore 7, 2) := by decide +kernel
theorem jd_Le_meanNearest_35 : decode jb_Le_meanNearest 35 = .ok (.iload 7, 2) := by decide +kernel
theorem jd_Le_meanNearest_37 : decode jb_Le_meanNearest 37 = .ok (.iload_n 2, 1) := by decide +kernel
theorem jd_Le_meanNearest_38 : decode jb_Le_meanNearest 38 = .ok (.if_icmp .ge 11, 3) := by decide +kernel
theorem jd_Le_meanNearest_41 : decode jb_Le_meanNearest 41 = .ok (.iload 7, 2) := by decide +kernel
theorem jd_Le_meanNearest_43 : decode jb_Le_meanNearest 43 = .ok (.istore_n 2, 1) := by decide +kernel
theorem jd_Le_meanNearest_44 : decode jb_Le_meanNearest 44 = .ok (.lconst 0, 1) := by decide +kernel
theorem jd_Le_meanNearest_45 : decode jb_Le_meanNearest 45 = .ok (.lstore_n 3, 1) := by decide +kernel
theorem jd_Le_meanNearest_46 : decode jb_Le_meanNearest 46 = .ok (.iconst 0, 1) := by decide +kernel
theorem jd_Le_meanNearest_47 : decode jb_Le_meanNearest 47 = .ok (.istore 5, 2) := by decide +kernel
theorem jd_Le_meanNearest_49 : decode jb_Le_meanNearest 49 = .ok (.iload 7, 2) := by decide +kernel
theorem jd_Le_meanNearest_51 : decode jb_Le_meanNearest 51 = .ok (.iload_n 2, 1) := by decide +kernel
theorem jd_Le_meanNearest_52 : decode jb_Le_meanNearest 52 = .ok (.if_icmp .ne 17, 3) := by decide +kernel
theorem jd_Le_meanNearest_55 : decode jb_Le_meanNearest 55 = .ok (.lload_n 3, 1) := by decide +kernel
theorem jd_Le_meanNearest_56 : decode jb_Le_meanNearest 56 = .ok (.aload_n 0, 1) := by decide +kernel
theorem jd_Le_meanNearest_57 : decode jb_Le_meanNearest 57 = .ok (.getfield 15, 3) := by decide +kernel
theorem jd_Le_meanNearest_60 : decode jb_Le_meanNearest 60 = .ok (.iload 6, 2) := by decide +kernel
theorem jd_Le_meanNearest_62 : decode jb_Le_meanNearest 62 = .ok (.iaload, 1) := by decide +kernel
theorem jd_Le_meanNearest_63 : decode jb_Le_meanNearest 63 = .ok (.i2l, 1) := by decide +kernel
theorem jd_Le_meanNearest_64 : decode jb_Le_meanNearest 64 = .ok (.ladd, 1) := by decide +kernel
theorem jd_Le_meanNearest_65 : decode jb_Le_meanNearest 65 = .ok (.lstore_n 3, 1) := by decide +kernel
theorem jd_Le_meanNearest_66 : decode jb_Le_meanNearest 66 = .ok (.iinc 5 1, 3) := by decide +kernel
theorem jd_Le_meanNearest_69 : decode jb_Le_meanNearest 69 = .ok (.iinc 6 1, 3) := by decide +kernel
theorem jd_Le_meanNearest_72 : decode jb_Le_meanNearest 72 = .ok (.goto (-60), 3) := by decide +kernel
theorem jd_Le_meanNearest_75 : decode jb_Le_meanNearest 75 = .ok (.iload 5, 2) := by decide +kernel
theorem jd_Le_meanNearest_77 : decode jb_Le_meanNearest 77 = .ok (.ifCond .ne 8, 3) := by decide +kernel
theorem jd_Le_meanNearest_80 : decode jb_Le_meanNearest 80 = .ok (.ldc 31, 2) := by decide +kernel
theorem jd_Le_meanNearest_82 : decode jb_Le_meanNearest 82 = .ok (.goto 11, 3) := by decide +kernel
theorem jd_Le_meanNearest_85 : decode jb_Le_meanNearest 85 = .ok (.lload_n 3, 1) := by decide +kernel
theorem jd_Le_meanNearest_86 : decode jb_Le_meanNearest 86 = .ok (.iload 5, 2) := by decide +kernel
theorem jd_Le_meanNearest_88 : decode jb_Le_meanNearest 88 = .ok (.i2l, 1) := by decide +kernel
theorem jd_Le_meanNearest_89 : decode jb_Le_meanNearest 89 = .ok (.invokestatic 32, 3) := by decide +kernel
theorem jd_Le_meanNearest_92 : decode jb_Le_meanNearest 92 = .ok (.l2i, 1) := by decide +kernel
theorem jd_Le_meanNearest_93 : decode jb_Le_meanNearest 93 = .ok (.ireturn, 1) := by decide +kernel
def f_Le_meanNearest_69 (F : Nat) (kb12 : Int32 → Int32 → Int64 → Int32 → Int32 → j_M → Option (Int32 × j_M)) (x1 : Int32) (x2 : Int32) (x3 : Int64) (x5 : Int32) (x6 : Int32) (I : j_M) : Option (Int32 × j_M) := j_let (x6 + 1) (fun v1 => kb12 x1 x2 x3 x5 v1 I)
def f_Le_meanNearest_49 (F : Nat) (kb12 : Int32 → Int32 → Int64 → Int32 → Int32 → j_M → Option (Int32 × j_M)) (x1 : Int32) (x2 : Int32) (x3 : Int64) (x5 : Int32) (x6 : Int32) (x7 : Int32) (I : j_M) : Option (Int32 × j_M) := (if x7 = x2 then (if j_ok x6 200 = true then j_let (x3 + ((I 212 (j_ix x6)).toInt64)) (fun w2 => j_let (x5 + 1) (fun v3 => f_Le_meanNearest_69 F kb12 x1 x2 w2 v3 x6 I)) else none) else f_Le_meanNearest_69 F kb12 x1 x2 x3 x5 x6 I)
def f_Le_meanNearest_12b (F : Nat) (kb12 : Int32 → Int32 → Int64 → Int32 → Int32 → j_M → Option (Int32 × j_M)) (x1 : Int32) (x2 : Int32) (x3 : Int64) (x5 : Int32) (x6 : Int32) (I : j_M) : Option (Int32 × j_M) := (if (I 211 0) ≤ x6 then (if x5 = 0 then some ((-2000000000), I) else j_bd (f_Ma_floorDiv F x3 (x5.toInt64) I) (fun w4 I5 => some (w4.toInt32, I5))) else (if j_ok x6 200 = true then j_let (if 0 ≤ ((I 213 (j_ix x6)) - x1) then ((I 213 (j_ix x6)) - x1) else 0 - ((I 213 (j_ix x6)) - x1)) (fun v6 => (if x2 ≤ v6 then f_Le_meanNearest_49 F kb12 x1 x2 x3 x5 x6 v6 I else f_Le_meanNearest_49 F kb12 x1 v6 0 0 x6 v6 I)) else none))
def f_Le_meanNearest_12 (F : Nat)  (x1 : Int32) (x2 : Int32) (x3 : Int64) (x5 : Int32) (x6 : Int32) (I : j_M) : Option (Int32 × j_M) := j_it (fun (again : Int32 × Int32 × Int64 × Int32 × Int32 × j_M → Option (Int32 × j_M)) (q : Int32 × Int32 × Int64 × Int32 × Int32 × j_M) => f_Le_meanNearest_12b F  (fun x1 x2 x3 x5 x6 I => again (x1, x2, x3, x5, x6, I))  q.1 q.2.1 q.2.2.1 q.2.2.2.1 q.2.2.2.2.1 q.2.2.2.2.2) F (x1, x2, x3, x5, x6, I)
def f_Le_meanNearest (F : Nat) (x1 : Int32) (I : j_M) : Option (Int32 × j_M) := f_Le_meanNearest_12 F x1 481 0 0 0 I
set_option maxRecDepth 100000 in
set_option maxHeartbeats 4000000 in
theorem k_Le_meanNearest_69 {p : Program} {l : Launch} {e : Env} {R : Room} {s : State} {m : MethodId} {args : Array Value} {below : List Frame} {meth : Method} {c : Code} {g : j_G} {b n : Nat} {P : j_R} {F : Nat} (hF : j_Fx 0 260 P) (hn : 260 ≤ n) (X : j_X p R s m args meth c g b 1 jb_Le_meanNearest 8 "PleasureGarden$Ledger" (some .int)) {kb12 : Int32 → Int32 → Int64 → Int32 → Int32 → j_M → Option (Int32 × j_M)} (hkb12 : ∀ (x1 : Int32) (x2 : Int32) (x3 : Int64) (x5 : Int32) (x6 : Int32) (I : j_M) (r : Int32 × j_M), kb12 x1 x2 x3 x5 x6 I = some r → j_W p l e R s m args below meth c 8 g b n 0 0 (j_Qi g b n P below args s r) I P 12 [some (.ref (b + 211)), some (.int x1), some (.int x2), some (.long x3), none, some (.int x5), some (.int x6), none] []) {x1 : Int32} {x2 : Int32} {x3 : Int64} {x5 : Int32} {x6 : Int32} {I : j_M} {r : Int32 × j_M}  (h : f_Le_meanNearest_69 F kb12 x1 x2 x3 x5 x6 I = some r) : j_W p l e R s m args below meth c 8 g b n 0 0 (j_Qi g b n P below args s r) I P 69 [some (.ref (b + 211)), some (.int x1), some (.int x2), some (.long x3), none, some (.int x5), some (.int x6), none] [] := by
  unfold f_Le_meanNearest_69 at h
  obtain ⟨v1, ev1, h⟩ := j_ex h
  refine j_iinc (v := v1) (lv' := [some (.ref (b + 211)), some (.int x1), some (.int x2), some (.long x3), none, some (.int x5), some (.int v1), none]) X jd_Le_meanNearest_69 rfl (by rw [ev1]; rfl) (by decide) rfl ?_
  refine j_goto (tgt := 12) X jd_Le_meanNearest_72 rfl ?_
  exact hkb12 _ _ _ _ _ _ _ h
set_option maxRecDepth 100000 in
set_option maxHeartbeats 4000000 in
theorem k_Le_meanNearest_49 {p : Program} {l : Launch} {e : Env} {R : Room} {s : State} {m : MethodId} {args : Array Value} {below : List Frame} {meth : Method} {c : Code} {g : j_G} {b n : Nat} {P : j_R} {F : Nat} (hF : j_Fx 0 260 P) (hn : 260 ≤ n) (X : j_X p R s m args meth c g b 1 jb_Le_meanNearest 8 "PleasureGarden$Ledger" (some .int)) {kb12 : Int32 → Int32 → Int64 → Int32 → Int32 → j_M → Option (Int32 × j_M)} (hkb12 : ∀ (x1 : Int32) (x2 : Int32) (x3 : Int64) (x5 : Int32) (x6 : Int32) (I : j_M) (r : Int32 × j_M), kb12 x1 x2 x3 x5 x6 I = some r → j_W p l e R s m args below meth c 8 g b n 0 0 (j_Qi g b n P below args s r) I P 12 [some (.ref (b + 211)), some (.int x1), some (.int x2), some (.long x3), none, some (.int x5), some (.int x6), none] []) {x1 : Int32} {x2 : Int32} {x3 : Int64} {x5 : Int32} {x6 : Int32} {x7 : Int32} {I : j_M} {r : Int32 × j_M}  (h : f_Le_meanNearest_49 F kb12 x1 x2 x3 x5 x6 x7 I = some r) : j_W p l e R s m args below meth c 8 g b n 0 0 (j_Qi g b n P below args s r) I P 49 [some (.ref (b + 211)), some (.int x1), some (.int x2), some (.long x3), none, some (.int x5), some (.int x6), some (.int x7)] [] := by
  unfold f_Le_meanNearest_49 at h
  refine j_iload X jd_Le_meanNearest_49 rfl ?_
  refine j_iload_n X jd_Le_meanNearest_51 rfl rfl ?_
  refine j_icmp_ne (tgt := 69) X jd_Le_meanNearest_52 rfl h (fun h => ?_) (fun h => ?_)
  · refine j_lload_n X jd_Le_meanNearest_55 rfl rfl ?_
    refine j_aload_n X jd_Le_meanNearest_56 rfl rfl ?_
    refine j_getr X jf_Le_15 jk_11_1 js_211 (j_lt rfl hn) (jp_211_1 hF) jd_Le_meanNearest_57 ?_
    refine j_iload X jd_Le_meanNearest_60 rfl ?_
    refine j_iald X js_212 (j_lt rfl hn) jd_Le_meanNearest_62 h (fun _ h => ?_)
    refine j_i2l X jd_Le_meanNearest_63 ?_
    refine j_ladd X jd_Le_meanNearest_64 ?_
    refine j_nml h (fun w2 h => ?_)
    refine j_lstore_n (lv' := [some (.ref (b + 211)), some (.int x1), some (.int x2), some (.long w2), none, some (.int x5), some (.int x6), some (.int x7)]) X jd_Le_meanNearest_65 rfl (by decide) rfl ?_
    obtain ⟨v3, ev3, h⟩ := j_ex h
    refine j_iinc (v := v3) (lv' := [some (.ref (b + 211)), some (.int x1), some (.int x2), some (.long w2), none, some (.int v3), some (.int x6), some (.int x7)]) X jd_Le_meanNearest_66 rfl (by rw [ev3]; rfl) (by decide) rfl ?_
    refine j_sub [true, true, true, true, false, true, true, false] (lv' := [some (.ref (b + 211)), some (.int x1), some (.int x2), some (.long w2), none, some (.int v3), some (.int x6), none]) rfl ?_
    exact k_Le_meanNearest_69 hF hn X hkb12 h
  · refine j_sub [true, true, true, true, false, true, true, false] (lv' := [some (.ref (b + 211)), some (.int x1), some (.int x2), some (.long x3), none, some (.int x5), some (.int x6), none]) rfl ?_
    exact k_Le_meanNearest_69 hF hn X hkb12 h
set_option maxRecDepth 100000 in
set_option maxHeartbeats 4000000 in
theorem k_Le_meanNearest_12b {p : Program} {l : Launch} {e : Env} {R : Room} {s : State} {m : MethodId} {args : Array Value} {below : List Frame} {meth : Method} {c : Code} {g : j_G} {b n : Nat} {P : j_R} {F : Nat} (hF : j_Fx 0 260 P) (hn : 260 ≤ n) (X : j_X p R s m args meth c g b 1 jb_Le_meanNearest 8 "PleasureGarden$Ledger" (some .int)) {kb12 : Int32 → Int32 → Int64 → Int32 → Int32 → j_M → Option (Int32 × j_M)} (hkb12 : ∀ (x1 : Int32) (x2 : Int32) (x3 : Int64) (x5 : Int32) (x6 : Int32) (I : j_M) (r : Int32 × j_M), kb12 x1 x2 x3 x5 x6 I = some r → j_W p l e R s m args below meth c 8 g b n 0 0 (j_Qi g b n P below args s r) I P 12 [some (.ref (b + 211)), some (.int x1), some (.int x2), some (.long x3), none, some (.int x5), some (.int x6), none] []) {x1 : Int32} {x2 : Int32} {x3 : Int64} {x5 : Int32} {x6 : Int32} {I : j_M} {r : Int32 × j_M}  (h : f_Le_meanNearest_12b F kb12 x1 x2 x3 x5 x6 I = some r) : j_W p l e R s m args below meth c 8 g b n 0 0 (j_Qi g b n P below args s r) I P 12 [some (.ref (b + 211)), some (.int x1), some (.int x2), some (.long x3), none, some (.int x5), some (.int x6), none] [] := by
  unfold f_Le_meanNearest_12b at h
  refine j_iload X jd_Le_meanNearest_12 rfl ?_
  refine j_aload_n X jd_Le_meanNearest_14 rfl rfl ?_
  refine j_get X jf_Le_9 jk_11_0 js_211 (j_lt rfl hn) jd_Le_meanNearest_15 ?_
  refine j_icmp_ge (tgt := 75) X jd_Le_meanNearest_18 rfl h (fun h => ?_) (fun h => ?_)
  · refine j_iload X jd_Le_meanNearest_75 rfl ?_
    refine j_if_ne (tgt := 85) X jd_Le_meanNearest_77 rfl h (fun h => ?_) (fun h => ?_)
    · refine j_ldc (v := (-2000000000)) X jlc_Le_31 jd_Le_meanNearest_80 ?_
      refine j_goto (tgt := 93) X jd_Le_meanNearest_82 rfl ?_
      exact j_iret X rfl jd_Le_meanNearest_93 h
    · refine j_lload_n X jd_Le_meanNearest_85 rfl rfl ?_
      refine j_iload X jd_Le_meanNearest_86 rfl ?_
      refine j_i2l X jd_Le_meanNearest_88 ?_
      refine j_callSl (As := [.long x3, .long (x5.toInt64)]) (st := []) X h ⟨jqc_Ma_floorDiv, jqs_Ma_floorDiv, jqn_Ma⟩ jlm_Le_32 jh_Ma_floorDiv.2 rfl (by decide) (by decide) (Nat.le_of_ble_eq_true rfl) ⟨Nat.zero_le _, Nat.zero_le _⟩ (fun v0 I0 h => k_Ma_floorDiv (r := (v0, I0)) hF hn h) jd_Le_meanNearest_89 rfl (fun w4 I5 h => ?_)
      refine j_l2i X jd_Le_meanNearest_92 ?_
      exact j_iret X rfl jd_Le_meanNearest_93 h
  · refine j_aload_n X jd_Le_meanNearest_21 rfl rfl ?_
    refine j_getr X jf_Le_19 jk_11_2 js_211 (j_lt rfl hn) (jp_211_2 hF) jd_Le_meanNearest_22 ?_
    refine j_iload X jd_Le_meanNearest_25 rfl ?_
    refine j_iald X js_213 (j_lt rfl hn) jd_Le_meanNearest_27 h (fun _ h => ?_)
    refine j_iload_n X jd_Le_meanNearest_28 rfl rfl ?_
    refine j_isub X jd_Le_meanNearest_29 ?_
    refine j_mabs (st := []) X jlm_Le_25 (by decide) (Nat.le_of_ble_eq_true rfl) ⟨Nat.zero_le _, Nat.zero_le _⟩ jd_Le_meanNearest_30 ?_
    refine j_nm h (fun v6 h => ?_)
    refine j_istore (lv' := [some (.ref (b + 211)), some (.int x1), some (.int x2), some (.long x3), none, some (.int x5), some (.int x6), some (.int v6)]) X jd_Le_meanNearest_33 (by decide) rfl ?_
    refine j_iload X jd_Le_meanNearest_35 rfl ?_
    refine j_iload_n X jd_Le_meanNearest_37 rfl rfl ?_
    refine j_icmp_ge (tgt := 49) X jd_Le_meanNearest_38 rfl h (fun h => ?_) (fun h => ?_)
    · exact k_Le_meanNearest_49 hF hn X hkb12 h
    · refine j_iload X jd_Le_meanNearest_41 rfl ?_
      refine j_istore_n (lv' := [some (.ref (b + 211)), some (.int x1), some (.int v6), some (.long x3), none, some (.int x5), some (.int x6), some (.int v6)]) X jd_Le_meanNearest_43 rfl (by decide) rfl ?_
      refine j_lconst (v := 0) X jd_Le_meanNearest_44 (by decide) ?_
      refine j_lstore_n (lv' := [some (.ref (b + 211)), some (.int x1), some (.int v6), some (.long 0), none, some (.int x5), some (.int x6), some (.int v6)]) X jd_Le_meanNearest_45 rfl (by decide) rfl ?_
      refine j_iconst (v := 0) X jd_Le_meanNearest_46 (by decide) ?_
      refine j_istore (lv' := [some (.ref (b + 211)), some (.int x1), some (.int v6), some (.long 0), none, some (.int 0), some (.int x6), some (.int v6)]) X jd_Le_meanNearest_47 (by decide) rfl ?_
      exact k_Le_meanNearest_49 hF hn X hkb12 h
set_option maxRecDepth 100000 in
set_option maxHeartbeats 4000000 in
theorem k_Le_meanNearest_12 {p : Program} {l : Launch} {e : Env} {R : Room} {s : State} {m : MethodId} {args : Array Value} {below : List Frame} {meth : Method} {c : Code} {g : j_G} {b n : Nat} {P : j_R} {F : Nat} (hF : j_Fx 0 260 P) (hn : 260 ≤ n) (X : j_X p R s m args meth c g b 1 jb_Le_meanNearest 8 "PleasureGarden$Ledger" (some .int))  {x1 : Int32} {x2 : Int32} {x3 : Int64} {x5 : Int32} {x6 : Int32} {I : j_M} {r : Int32 × j_M} (h : f_Le_meanNearest_12 F x1 x2 x3 x5 x6 I = some r) : j_W p l e R s m args below meth c 8 g b n 0 0 (j_Qi g b n P below args s r) I P 12 [some (.ref (b + 211)), some (.int x1), some (.int x2), some (.long x3), none, some (.int x5), some (.int x6), none] [] := by
  refine j_loop (G := fun (q : Int32 × Int32 × Int64 × Int32 × Int32 × j_M) (r : Int32 × j_M) => j_W p l e R s m args below meth c 8 g b n 0 0 (j_Qi g b n P below args s r) q.2.2.2.2.2 P 12 [some (.ref (b + 211)), some (.int (q.1)), some (.int (q.2.1)), some (.long (q.2.2.1)), none, some (.int (q.2.2.2.1)), some (.int (q.2.2.2.2.1)), none] []) ?_ F (x1, x2, x3, x5, x6, I) r h
  intro again hrec0 q r h
  exact k_Le_meanNearest_12b hF hn X (fun x1 x2 x3 x5 x6 I r h => hrec0 (x1, x2, x3, x5, x6, I) r h)  h
set_option maxRecDepth 100000 in
set_option maxHeartbeats 4000000 in
theorem k_Le_meanNearest {l : Launch} {g : j_G} {b n : Nat} {P : j_R} {F : Nat} (hF : j_Fx 0 260 P) (hn : 260 ≤ n) {x1 : Int32} {I : j_M} {r : Int32 × j_M}  (h : f_Le_meanNearest F x1 I = some r) : j_Met l g b n P 1 jy_Le_meanNearest jb_Le_meanNearest 8 (some .int) [.ref (b + 211), .int x1] I r.2 (some (.int r.1)) := by
  unfold f_Le_meanNearest at h
  refine j_enter (plainFor_of_name (by decide)) (Nat.le_of_ble_eq_true rfl) [some (.ref (b + 211)), some (.int x1), none, none, none, none, none, none] rfl ?_
  intro p e R s m args below meth c X0 hnm hRc hRs
  have X : j_X p R s m args meth c g b 1 jb_Le_meanNearest 8 "PleasureGarden$Ledger" (some .int) := X0
  clear X0
  refine j_sipush (v := 481) X jd_Le_meanNearest_0 (by decide) ?_
  refine j_istore_n (lv' := [some (.ref (b + 211)), some (.int x1), some (.int 481), none, none, none, none, none]) X jd_Le_meanNearest_3 rfl (by decide) rfl ?_
  refine j_lconst (v := 0) X jd_Le_meanNearest_4 (by decide) ?_
  refine j_lstore_n (lv' := [some (.ref (b + 211)), some (.int x1), some (.int 481), some (.long 0), none, none, none, none]) X jd_Le_meanNearest_5 rfl (by decide) rfl ?_
  refine j_iconst (v := 0) X jd_Le_meanNearest_6 (by decide) ?_
  refine j_istore (lv' := [some (.ref (b + 211)), some (.int x1), some (.int 481), some (.long 0), none, some (.int 0), none, none]) X jd_Le_meanNearest_7 (by decide) rfl ?_
  refine j_iconst (v := 0) X jd_Le_meanNearest_9 (by decide) ?_
  refine j_istore (lv' := [some (.ref (b + 211)), some (.int x1), some (.int 481), some (.long 0), none, some (.int 0), some (.int 0), none]) X jd_Le_meanNearest_10 (by decide) rfl ?_
  exact k_Le_meanNearest_12 hF hn X h
-- java/lang/String.length()I
theorem jd_St_length_0 : decode jb_St_length 0 = .ok (.aload_n 0, 1) := by decide +kernel
theorem jd_St_length_1 : decode jb_St_length 1 = .ok (.getfield 9, 3) := by decide +kernel
theorem jd_St_length_4 : decode jb_St_length 4 = .ok (.arraylength, 1) := by decide +kernel
theorem jd_St_length_5 : decode jb_St_length 5 = .ok (.aload_n 0, 1) := by decide +kernel
theorem jd_St_length_6 : decode jb_St_length 6 = .ok (.invokevirtual 335, 3) := by decide +kernel
theorem jd_St_length_9 : decode jb_St_length 9 = .ok (.ishr, 1) := by decide +kernel
theorem jd_St_length_10 : decode jb_St_length 10 = .ok (.ireturn, 1) := by decide +kernel
def f_St_length (F : Nat)  (I : j_M) : Option (Int32 × j_M) := j_bd (f_St_coder F I) (fun v1 I2 => some (8 >>> (v1 &&& 31), I2))
set_option maxRecDepth 100000 in
set_option maxHeartbeats 4000000 in
theorem k_St_length {l : Launch} {g : j_G} {b n : Nat} {P : j_R} {F : Nat} (hF : j_Fx 0 260 P) (hn : 260 ≤ n)  {I : j_M} {r : Int32 × j_M}  (h : f_St_length F I = some r) : j_Met l g b n P 1 jy_St_length jb_St_length 1 (some .int) [.ref g.2.2.1] I r.2 (some (.int r.1)) := by
  unfold f_St_length at h
  refine j_enter (plainFor_of_name (by decide)) (Nat.le_of_ble_eq_true rfl) [some (.ref g.2.2.1)] rfl ?_
  intro p e R s m args below meth c X0 hnm hRc hRs
  have X : j_X p R s m args meth c g b 1 jb_St_length 1 "java/lang/String" (some .int) := X0
  clear X0
  refine j_aload_n X jd_St_length_0 rfl rfl ?_
  refine j_sval X jlf_St_9 jd_St_length_1 ?_
  refine j_slen X jd_St_length_4 ?_
  refine j_aload_n X jd_St_length_5 rfl rfl ?_
  refine j_callR (As := []) (st := [.int 8]) X h ⟨jqc_St_coder, jqi_St_coder, jqv_St_coder, jqn_St⟩ jlm_St_335 jh_St_coder rfl (by decide) (by decide) (Nat.le_of_ble_eq_true rfl) ⟨Nat.zero_le _, Nat.zero_le _⟩ (fun v0 I0 h => k_St_coder (r := (v0, I0)) hF hn h) jd_St_length_6 rfl (fun v1 I2 h => ?_)
  refine j_ishr X jd_St_length_9 ?_
  exact j_iret X rfl jd_St_length_10 h
-- java/lang/StringLatin1.indexOf([BIII)I
theorem jd_Sl_indexOf_0 : decode jb_Sl_indexOf 0 = .ok (.iload_n 1, 1) := by decide +kernel
theorem jd_Sl_indexOf_1 : decode jb_Sl_indexOf 1 = .ok (.invokestatic 88, 3) := by decide +kernel
theorem jd_Sl_indexOf_4 : decode jb_Sl_indexOf 4 = .ok (.ifCond .ne 5, 3) := by decide +kernel
theorem jd_Sl_indexOf_7 : decode jb_Sl_indexOf 7 = .ok (.iconst (-1), 1) := by decide +kernel
theorem jd_Sl_indexOf_8 : decode jb_Sl_indexOf 8 = .ok (.ireturn, 1) := by decide +kernel
theorem jd_Sl_indexOf_9 : decode jb_Sl_indexOf 9 = .ok (.iload_n 2, 1) := by decide +kernel
theorem jd_Sl_indexOf_10 : decode jb_Sl_indexOf 10 = .ok (.iconst 0, 1) := by decide +kernel
theorem jd_Sl_indexOf_11 : decode jb_Sl_indexOf 11 = .ok (.invokestatic 92, 3) := by decide +kernel
theorem jd_Sl_indexOf_14 : decode jb_Sl_indexOf 14 = .ok (.istore_n 2, 1) := by decide +kernel
theorem jd_Sl_indexOf_15 : decode jb_Sl_indexOf 15 = .ok (.iload_n 3, 1) := by decide +kernel
theorem jd_Sl_indexOf_16 : decode jb_Sl_indexOf 16 = .ok (.aload_n 0, 1) := by decide +kernel
theorem jd_Sl_indexOf_17 : decode jb_Sl_indexOf 17 = .ok (.arraylength, 1) := by decide +kernel
theorem jd_Sl_indexOf_18 : decode jb_Sl_indexOf 18 = .ok (.invokestatic 38, 3) := by decide +kernel
theorem jd_Sl_indexOf_21 : decode jb_Sl_indexOf 21 = .ok (.istore_n 3, 1) := by decide +kernel
theorem jd_Sl_indexOf_22 : decode jb_Sl_indexOf 22 = .ok (.iload_n 2, 1) := by decide +kernel
theorem jd_Sl_indexOf_23 : decode jb_Sl_indexOf 23 = .ok (.iload_n 3, 1) := by decide +kernel
theorem jd_Sl_indexOf_24 : decode jb_Sl_indexOf 24 = .ok (.if_icmp .lt 5, 3) := by decide +kernel
theorem jd_Sl_indexOf_27 : decode jb_Sl_indexOf 27 = .ok (.iconst (-1), 1) := by decide +kernel
theorem jd_Sl_indexOf_28 : decode jb_Sl_indexOf 28 = .ok (.ireturn, 1) := by decide +kernel
theorem jd_Sl_indexOf_29 : decode jb_Sl_indexOf 29 = .ok (.aload_n 0, 1) := by decide +kernel
theorem jd_Sl_indexOf_30 : decode jb_Sl_indexOf 30 = .ok (.iload_n 1, 1) := by decide +kernel
theorem jd_Sl_indexOf_31 : decode jb_Sl_indexOf 31 = .ok (.iload_n 2, 1) := by decide +kernel
theorem jd_Sl_indexOf_32 : decode jb_Sl_indexOf 32 = .ok (.iload_n 3, 1) := by decide +kernel
theorem jd_Sl_indexOf_33 : decode jb_Sl_indexOf 33 = .ok (.invokestatic 95, 3) := by decide +kernel
theorem jd_Sl_indexOf_36 : decode jb_Sl_indexOf 36 = .ok (.ireturn, 1) := by decide +kernel
def f_Sl_indexOf (F : Nat) (x1 : Int32) (x2 : Int32) (x3 : Int32) (I : j_M) : Option (Int32 × j_M) := j_bd (f_Sl_canEncode F x1 I) (fun v1 I2 => (if v1 = 0 then some ((-1), I2) else j_let (if x2 < 0 then 0 else x2) (fun v3 => j_let (if 8 < x3 then 8 else x3) (fun v4 => (if v3 < v4 then j_bd (f_Sl_indexOfChar F x1 v3 v4 I2) (fun v5 I6 => some (v5, I6)) else some ((-1), I2))))))
set_option maxRecDepth 100000 in
set_option maxHeartbeats 4000000 in
theorem k_Sl_indexOf {l : Launch} {g : j_G} {b n : Nat} {P : j_R} {F : Nat} (hF : j_Fx 0 260 P) (hn : 260 ≤ n) {x1 : Int32} {x2 : Int32} {x3 : Int32} {I : j_M} {r : Int32 × j_M}  (h : f_Sl_indexOf F x1 x2 x3 I = some r) : j_Met l g b n P 1 jy_Sl_indexOf jb_Sl_indexOf 4 (some .int) [.ref g.2.2.2.1, .int x1, .int x2, .int x3] I r.2 (some (.int r.1)) := by
  unfold f_Sl_indexOf at h
  refine j_enter (plainFor_of_name (by decide)) (Nat.le_of_ble_eq_true rfl) [some (.ref g.2.2.2.1), some (.int x1), some (.int x2), some (.int x3)] rfl ?_
  intro p e R s m args below meth c X0 hnm hRc hRs
  have X : j_X p R s m args meth c g b 1 jb_Sl_indexOf 4 "java/lang/StringLatin1" (some .int) := X0
  clear X0
  refine j_iload_n X jd_Sl_indexOf_0 rfl rfl ?_
  refine j_callSi (As := [.int x1]) (st := []) X h ⟨jqc_Sl_canEncode, jqs_Sl_canEncode, jqn_Sl⟩ jlm_Sl_88 jh_Sl_canEncode.2 rfl (by decide) (by decide) (Nat.le_of_ble_eq_true rfl) ⟨Nat.zero_le _, Nat.zero_le _⟩ (fun v0 I0 h => k_Sl_canEncode (r := (v0, I0)) hF hn h) jd_Sl_indexOf_1 rfl (fun v1 I2 h => ?_)
  refine j_if_ne (tgt := 9) X jd_Sl_indexOf_4 rfl h (fun h => ?_) (fun h => ?_)
  · refine j_iconst (v := (-1)) X jd_Sl_indexOf_7 (by decide) ?_
    exact j_iret X rfl jd_Sl_indexOf_8 h
  · refine j_iload_n X jd_Sl_indexOf_9 rfl rfl ?_
    refine j_iconst (v := 0) X jd_Sl_indexOf_10 (by decide) ?_
    refine j_mmax (st := []) X jlm_Sl_92 (by decide) (Nat.le_of_ble_eq_true rfl) ⟨Nat.zero_le _, Nat.zero_le _⟩ jd_Sl_indexOf_11 ?_
    refine j_nm h (fun v3 h => ?_)
    refine j_istore_n (lv' := [some (.ref g.2.2.2.1), some (.int x1), some (.int v3), some (.int x3)]) X jd_Sl_indexOf_14 rfl (by decide) rfl ?_
    refine j_iload_n X jd_Sl_indexOf_15 rfl rfl ?_
    refine j_aload_n X jd_Sl_indexOf_16 rfl rfl ?_
    refine j_slen X jd_Sl_indexOf_17 ?_
    refine j_mmin (st := []) X jlm_Sl_38 (by decide) (Nat.le_of_ble_eq_true rfl) ⟨Nat.zero_le _, Nat.zero_le _⟩ jd_Sl_indexOf_18 ?_
    refine j_nm h (fun v4 h => ?_)
    refine j_istore_n (lv' := [some (.ref g.2.2.2.1), some (.int x1), some (.int v3), some (.int v4)]) X jd_Sl_indexOf_21 rfl (by decide) rfl ?_
    refine j_iload_n X jd_Sl_indexOf_22 rfl rfl ?_
    refine j_iload_n X jd_Sl_indexOf_23 rfl rfl ?_
    refine j_icmp_lt (tgt := 29) X jd_Sl_indexOf_24 rfl h (fun h => ?_) (fun h => ?_)
    · refine j_aload_n X jd_Sl_indexOf_29 rfl rfl ?_
      refine j_iload_n X jd_Sl_indexOf_30 rfl rfl ?_
      refine j_iload_n X jd_Sl_indexOf_31 rfl rfl ?_
      refine j_iload_n X jd_Sl_indexOf_32 rfl rfl ?_
      refine j_callSi (As := [.ref g.2.2.2.1, .int x1, .int v3, .int v4]) (st := []) X h ⟨jqc_Sl_indexOfChar, jqs_Sl_indexOfChar, jqn_Sl⟩ jlm_Sl_95 jh_Sl_indexOfChar.2 rfl (by decide) (by decide) (Nat.le_of_ble_eq_true rfl) ⟨Nat.zero_le _, Nat.zero_le _⟩ (fun v0 I0 h => k_Sl_indexOfChar (r := (v0, I0)) hF hn h) jd_Sl_indexOf_33 rfl (fun v5 I6 h => ?_)
      exact j_iret X rfl jd_Sl_indexOf_36 h
    · refine j_iconst (v := (-1)) X jd_Sl_indexOf_27 (by decide) ?_
      exact j_iret X rfl jd_Sl_indexOf_28 h
-- java/lang/String.indexOf(II)I
theorem jd_St_indexOf2_0 : decode jb_St_indexOf2 0 = .ok (.aload_n 0, 1) := by decide +kernel
theorem jd_St_indexOf2_1 : decode jb_St_indexOf2 1 = .ok (.invokevirtual 492, 3) := by decide +kernel
theorem jd_St_indexOf2_4 : decode jb_St_indexOf2 4 = .ok (.ifCond .eq 19, 3) := by decide +kernel
theorem jd_St_indexOf2_7 : decode jb_St_indexOf2 7 = .ok (.aload_n 0, 1) := by decide +kernel
theorem jd_St_indexOf2_8 : decode jb_St_indexOf2 8 = .ok (.getfield 9, 3) := by decide +kernel
theorem jd_St_indexOf2_11 : decode jb_St_indexOf2 11 = .ok (.iload_n 1, 1) := by decide +kernel
theorem jd_St_indexOf2_12 : decode jb_St_indexOf2 12 = .ok (.iload_n 2, 1) := by decide +kernel
theorem jd_St_indexOf2_13 : decode jb_St_indexOf2 13 = .ok (.aload_n 0, 1) := by decide +kernel
theorem jd_St_indexOf2_14 : decode jb_St_indexOf2 14 = .ok (.invokevirtual 505, 3) := by decide +kernel
theorem jd_St_indexOf2_17 : decode jb_St_indexOf2 17 = .ok (.invokestatic 637, 3) := by decide +kernel
theorem jd_St_indexOf2_20 : decode jb_St_indexOf2 20 = .ok (.goto 16, 3) := by decide +kernel
theorem jd_St_indexOf2_36 : decode jb_St_indexOf2 36 = .ok (.ireturn, 1) := by decide +kernel
def f_St_indexOf2 (F : Nat) (x1 : Int32) (x2 : Int32) (I : j_M) : Option (Int32 × j_M) := j_bd (f_St_isLatin1 F I) (fun v1 I2 => (if v1 = 0 then none else j_bd (f_St_length F I2) (fun v3 I4 => j_bd (f_Sl_indexOf F x1 x2 v3 I4) (fun v5 I6 => some (v5, I6)))))
set_option maxRecDepth 100000 in
set_option maxHeartbeats 4000000 in
theorem k_St_indexOf2 {l : Launch} {g : j_G} {b n : Nat} {P : j_R} {F : Nat} (hF : j_Fx 0 260 P) (hn : 260 ≤ n) {x1 : Int32} {x2 : Int32} {I : j_M} {r : Int32 × j_M}  (h : f_St_indexOf2 F x1 x2 I = some r) : j_Met l g b n P 2 jy_St_indexOf2 jb_St_indexOf2 3 (some .int) [.ref g.2.2.1, .int x1, .int x2] I r.2 (some (.int r.1)) := by
  unfold f_St_indexOf2 at h
  refine j_enter (plainFor_of_name (by decide)) (Nat.le_of_ble_eq_true rfl) [some (.ref g.2.2.1), some (.int x1), some (.int x2)] rfl ?_
  intro p e R s m args below meth c X0 hnm hRc hRs
  have X : j_X p R s m args meth c g b 2 jb_St_indexOf2 3 "java/lang/String" (some .int) := X0
  clear X0
  refine j_aload_n X jd_St_indexOf2_0 rfl rfl ?_
  refine j_callR (As := []) (st := []) X h ⟨jqc_St_isLatin1, jqi_St_isLatin1, jqv_St_isLatin1, jqn_St⟩ jlm_St_492 jh_St_isLatin1 rfl (by decide) (by decide) (Nat.le_of_ble_eq_true rfl) ⟨Nat.zero_le _, Nat.zero_le _⟩ (fun v0 I0 h => k_St_isLatin1 (r := (v0, I0)) hF hn h) jd_St_indexOf2_1 rfl (fun v1 I2 h => ?_)
  refine j_if_eq (tgt := 23) X jd_St_indexOf2_4 rfl h (fun h => ?_) (fun h => ?_)
  · cases h
  · refine j_aload_n X jd_St_indexOf2_7 rfl rfl ?_
    refine j_sval X jlf_St_9 jd_St_indexOf2_8 ?_
    refine j_iload_n X jd_St_indexOf2_11 rfl rfl ?_
    refine j_iload_n X jd_St_indexOf2_12 rfl rfl ?_
    refine j_aload_n X jd_St_indexOf2_13 rfl rfl ?_
    refine j_callR (As := []) (st := [.int x2, .int x1, .ref g.2.2.2.1]) X h ⟨jqc_St_length, jqi_St_length, jqv_St_length, jqn_St⟩ jlm_St_505 jh_St_length rfl (by decide) (by decide) (Nat.le_of_ble_eq_true rfl) ⟨Nat.zero_le _, Nat.zero_le _⟩ (fun v0 I0 h => k_St_length (r := (v0, I0)) hF hn h) jd_St_indexOf2_14 rfl (fun v3 I4 h => ?_)
    refine j_callSi (As := [.ref g.2.2.2.1, .int x1, .int x2, .int v3]) (st := []) X h ⟨jqc_Sl_indexOf, jqs_Sl_indexOf, jqn_Sl⟩ jlm_St_637 jh_Sl_indexOf.2 rfl (by decide) (by decide) (Nat.le_of_ble_eq_true rfl) ⟨Nat.zero_le _, Nat.zero_le _⟩ (fun v0 I0 h => k_Sl_indexOf (r := (v0, I0)) hF hn h) jd_St_indexOf2_17 rfl (fun v5 I6 h => ?_)
    refine j_goto (tgt := 36) X jd_St_indexOf2_20 rfl ?_
    exact j_iret X rfl jd_St_indexOf2_36 h
-- java/lang/String.indexOf(I)I
theorem jd_St_indexOf1_0 : decode jb_St_indexOf1 0 = .ok (.aload_n 0, 1) := by decide +kernel
theorem jd_St_indexOf1_1 : decode jb_St_indexOf1 1 = .ok (.iload_n 1, 1) := by decide +kernel
theorem jd_St_indexOf1_2 : decode jb_St_indexOf1 2 = .ok (.iconst 0, 1) := by decide +kernel
theorem jd_St_indexOf1_3 : decode jb_St_indexOf1 3 = .ok (.invokevirtual 633, 3) := by decide +kernel
theorem jd_St_indexOf1_6 : decode jb_St_indexOf1 6 = .ok (.ireturn, 1) := by decide +kernel
def f_St_indexOf1 (F : Nat) (x1 : Int32) (I : j_M) : Option (Int32 × j_M) := j_bd (f_St_indexOf2 F x1 0 I) (fun v1 I2 => some (v1, I2))
set_option maxRecDepth 100000 in
set_option maxHeartbeats 4000000 in
theorem k_St_indexOf1 {l : Launch} {g : j_G} {b n : Nat} {P : j_R} {F : Nat} (hF : j_Fx 0 260 P) (hn : 260 ≤ n) {x1 : Int32} {I : j_M} {r : Int32 × j_M}  (h : f_St_indexOf1 F x1 I = some r) : j_Met l g b n P 3 jy_St_indexOf1 jb_St_indexOf1 2 (some .int) [.ref g.2.2.1, .int x1] I r.2 (some (.int r.1)) := by
  unfold f_St_indexOf1 at h
  refine j_enter (plainFor_of_name (by decide)) (Nat.le_of_ble_eq_true rfl) [some (.ref g.2.2.1), some (.int x1)] rfl ?_
  intro p e R s m args below meth c X0 hnm hRc hRs
  have X : j_X p R s m args meth c g b 3 jb_St_indexOf1 2 "java/lang/String" (some .int) := X0
  clear X0
  refine j_aload_n X jd_St_indexOf1_0 rfl rfl ?_
  refine j_iload_n X jd_St_indexOf1_1 rfl rfl ?_
  refine j_iconst (v := 0) X jd_St_indexOf1_2 (by decide) ?_
  refine j_callR (As := [.int x1, .int 0]) (st := []) X h ⟨jqc_St_indexOf2, jqi_St_indexOf2, jqv_St_indexOf2, jqn_St⟩ jlm_St_633 jh_St_indexOf2 rfl (by decide) (by decide) (Nat.le_of_ble_eq_true rfl) ⟨Nat.zero_le _, Nat.zero_le _⟩ (fun v0 I0 h => k_St_indexOf2 (r := (v0, I0)) hF hn h) jd_St_indexOf1_3 rfl (fun v1 I2 h => ?_)
  exact j_iret X rfl jd_St_indexOf1_6 h
