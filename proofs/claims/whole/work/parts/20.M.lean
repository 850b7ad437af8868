-- PleasureGardenModel.among(III)Z
theorem jd_M_among_0 : decode jb_M_among 0 = .ok (.iload_n 0, 1) := by decide +kernel
theorem jd_M_among_1 : decode jb_M_among 1 = .ok (.iload_n 1, 1) := by decide +kernel
theorem jd_M_among_2 : decode jb_M_among 2 = .ok (.if_icmp .lt 12, 3) := by decide +kernel
theorem jd_M_among_5 : decode jb_M_among 5 = .ok (.iload_n 0, 1) := by decide +kernel
theorem jd_M_among_6 : decode jb_M_among 6 = .ok (.iload_n 2, 1) := by decide +kernel
theorem jd_M_among_7 : decode jb_M_among 7 = .ok (.if_icmp .gt 7, 3) := by decide +kernel
theorem jd_M_among_10 : decode jb_M_among 10 = .ok (.iconst 1, 1) := by decide +kernel
theorem jd_M_among_11 : decode jb_M_among 11 = .ok (.goto 4, 3) := by decide +kernel
theorem jd_M_among_14 : decode jb_M_among 14 = .ok (.iconst 0, 1) := by decide +kernel
theorem jd_M_among_15 : decode jb_M_among 15 = .ok (.ireturn, 1) := by decide +kernel
def f_M_among (F : Nat) (x0 : Int32) (x1 : Int32) (x2 : Int32) (I : j_M) : Option (Int32 × j_M) := (if x0 < x1 then some (0, I) else (if x2 < x0 then some (0, I) else some (1, I)))
set_option maxRecDepth 100000 in
set_option maxHeartbeats 4000000 in
theorem k_M_among {l : Launch} {g : j_G} {b n : Nat} {P : j_R} {F : Nat} (hF : j_Fx 0 260 P) (hn : 260 ≤ n) {x0 : Int32} {x1 : Int32} {x2 : Int32} {I : j_M} {r : Int32 × j_M}  (h : f_M_among F x0 x1 x2 I = some r) : j_Met l g b n P 0 jy_M_among jb_M_among 3 (some .boolean) [.int x0, .int x1, .int x2] I r.2 (some (.int r.1)) := by
  unfold f_M_among at h
  refine j_enter (plainFor_of_name (by decide)) (Nat.le_of_ble_eq_true rfl) [some (.int x0), some (.int x1), some (.int x2)] rfl ?_
  intro p e R s m args below meth c X0 hnm hRc hRs
  have X : j_X p R s m args meth c g b 0 jb_M_among 3 "PleasureGardenModel" (some .boolean) := X0
  clear X0
  refine j_iload_n X jd_M_among_0 rfl rfl ?_
  refine j_iload_n X jd_M_among_1 rfl rfl ?_
  refine j_icmp_lt (tgt := 14) X jd_M_among_2 rfl h (fun h => ?_) (fun h => ?_)
  · refine j_iconst (v := 0) X jd_M_among_14 (by decide) ?_
    exact j_zret X rfl (by decide) jd_M_among_15 h
  · refine j_iload_n X jd_M_among_5 rfl rfl ?_
    refine j_iload_n X jd_M_among_6 rfl rfl ?_
    refine j_icmp_gt (tgt := 14) X jd_M_among_7 rfl h (fun h => ?_) (fun h => ?_)
    · refine j_iconst (v := 0) X jd_M_among_14 (by decide) ?_
      exact j_zret X rfl (by decide) jd_M_among_15 h
    · refine j_iconst (v := 1) X jd_M_among_10 (by decide) ?_
      refine j_goto (tgt := 15) X jd_M_among_11 rfl ?_
      exact j_zret X rfl (by decide) jd_M_among_15 h
-- PleasureGardenModel.findFar(I)V
theorem jd_M_findFar_0 : decode jb_M_findFar 0 = .ok (.iconst 0, 1) := by decide +kernel
theorem jd_M_findFar_1 : decode jb_M_findFar 1 = .ok (.istore_n 2, 1) := by decide +kernel
theorem jd_M_findFar_2 : decode jb_M_findFar 2 = .ok (.iload_n 2, 1) := by decide +kernel
theorem jd_M_findFar_3 : decode jb_M_findFar 3 = .ok (.aload_n 0, 1) := by decide +kernel
theorem jd_M_findFar_4 : decode jb_M_findFar 4 = .ok (.getfield 155, 3) := by decide +kernel
theorem jd_M_findFar_7 : decode jb_M_findFar 7 = .ok (.if_icmp .ge 26, 3) := by decide +kernel
theorem jd_M_findFar_10 : decode jb_M_findFar 10 = .ok (.aload_n 0, 1) := by decide +kernel
theorem jd_M_findFar_11 : decode jb_M_findFar 11 = .ok (.getfield 26, 3) := by decide +kernel
theorem jd_M_findFar_14 : decode jb_M_findFar 14 = .ok (.iload_n 2, 1) := by decide +kernel
theorem jd_M_findFar_15 : decode jb_M_findFar 15 = .ok (.iload_n 2, 1) := by decide +kernel
theorem jd_M_findFar_16 : decode jb_M_findFar 16 = .ok (.iload_n 1, 1) := by decide +kernel
theorem jd_M_findFar_17 : decode jb_M_findFar 17 = .ok (.if_icmp .ne 7, 3) := by decide +kernel
theorem jd_M_findFar_20 : decode jb_M_findFar 20 = .ok (.iconst 0, 1) := by decide +kernel
theorem jd_M_findFar_21 : decode jb_M_findFar 21 = .ok (.goto 5, 3) := by decide +kernel
theorem jd_M_findFar_24 : decode jb_M_findFar 24 = .ok (.ldc 166, 2) := by decide +kernel
theorem jd_M_findFar_26 : decode jb_M_findFar 26 = .ok (.iastore, 1) := by decide +kernel
theorem jd_M_findFar_27 : decode jb_M_findFar 27 = .ok (.iinc 2 1, 3) := by decide +kernel
theorem jd_M_findFar_30 : decode jb_M_findFar 30 = .ok (.goto (-28), 3) := by decide +kernel
theorem jd_M_findFar_33 : decode jb_M_findFar 33 = .ok (.iconst 1, 1) := by decide +kernel
theorem jd_M_findFar_34 : decode jb_M_findFar 34 = .ok (.istore_n 2, 1) := by decide +kernel
theorem jd_M_findFar_35 : decode jb_M_findFar 35 = .ok (.iload_n 2, 1) := by decide +kernel
theorem jd_M_findFar_36 : decode jb_M_findFar 36 = .ok (.ifCond .eq 101, 3) := by decide +kernel
theorem jd_M_findFar_39 : decode jb_M_findFar 39 = .ok (.iconst 0, 1) := by decide +kernel
theorem jd_M_findFar_40 : decode jb_M_findFar 40 = .ok (.istore_n 2, 1) := by decide +kernel
theorem jd_M_findFar_41 : decode jb_M_findFar 41 = .ok (.iconst 0, 1) := by decide +kernel
theorem jd_M_findFar_42 : decode jb_M_findFar 42 = .ok (.istore_n 3, 1) := by decide +kernel
theorem jd_M_findFar_43 : decode jb_M_findFar 43 = .ok (.iload_n 3, 1) := by decide +kernel
theorem jd_M_findFar_44 : decode jb_M_findFar 44 = .ok (.aload_n 0, 1) := by decide +kernel
theorem jd_M_findFar_45 : decode jb_M_findFar 45 = .ok (.getfield 155, 3) := by decide +kernel
theorem jd_M_findFar_48 : decode jb_M_findFar 48 = .ok (.if_icmp .ge 86, 3) := by decide +kernel
theorem jd_M_findFar_51 : decode jb_M_findFar 51 = .ok (.iconst 0, 1) := by decide +kernel
theorem jd_M_findFar_52 : decode jb_M_findFar 52 = .ok (.istore 4, 2) := by decide +kernel
theorem jd_M_findFar_54 : decode jb_M_findFar 54 = .ok (.iload 4, 2) := by decide +kernel
theorem jd_M_findFar_56 : decode jb_M_findFar 56 = .ok (.aload_n 0, 1) := by decide +kernel
theorem jd_M_findFar_57 : decode jb_M_findFar 57 = .ok (.getfield 155, 3) := by decide +kernel
theorem jd_M_findFar_60 : decode jb_M_findFar 60 = .ok (.if_icmp .ge 68, 3) := by decide +kernel
theorem jd_M_findFar_63 : decode jb_M_findFar 63 = .ok (.aload_n 0, 1) := by decide +kernel
theorem jd_M_findFar_64 : decode jb_M_findFar 64 = .ok (.getfield 17, 3) := by decide +kernel
theorem jd_M_findFar_67 : decode jb_M_findFar 67 = .ok (.bipush 16, 2) := by decide +kernel
theorem jd_M_findFar_69 : decode jb_M_findFar 69 = .ok (.iload_n 3, 1) := by decide +kernel
theorem jd_M_findFar_70 : decode jb_M_findFar 70 = .ok (.imul, 1) := by decide +kernel
theorem jd_M_findFar_71 : decode jb_M_findFar 71 = .ok (.iload 4, 2) := by decide +kernel
theorem jd_M_findFar_73 : decode jb_M_findFar 73 = .ok (.iadd, 1) := by decide +kernel
theorem jd_M_findFar_74 : decode jb_M_findFar 74 = .ok (.iaload, 1) := by decide +kernel
theorem jd_M_findFar_75 : decode jb_M_findFar 75 = .ok (.istore 5, 2) := by decide +kernel
theorem jd_M_findFar_77 : decode jb_M_findFar 77 = .ok (.iload 5, 2) := by decide +kernel
theorem jd_M_findFar_79 : decode jb_M_findFar 79 = .ok (.ifCond .eq 43, 3) := by decide +kernel
theorem jd_M_findFar_82 : decode jb_M_findFar 82 = .ok (.aload_n 0, 1) := by decide +kernel
theorem jd_M_findFar_83 : decode jb_M_findFar 83 = .ok (.getfield 26, 3) := by decide +kernel
theorem jd_M_findFar_86 : decode jb_M_findFar 86 = .ok (.iload_n 3, 1) := by decide +kernel
theorem jd_M_findFar_87 : decode jb_M_findFar 87 = .ok (.iaload, 1) := by decide +kernel
theorem jd_M_findFar_88 : decode jb_M_findFar 88 = .ok (.iload 5, 2) := by decide +kernel
theorem jd_M_findFar_90 : decode jb_M_findFar 90 = .ok (.iadd, 1) := by decide +kernel
theorem jd_M_findFar_91 : decode jb_M_findFar 91 = .ok (.aload_n 0, 1) := by decide +kernel
theorem jd_M_findFar_92 : decode jb_M_findFar 92 = .ok (.getfield 26, 3) := by decide +kernel
theorem jd_M_findFar_95 : decode jb_M_findFar 95 = .ok (.iload 4, 2) := by decide +kernel
theorem jd_M_findFar_97 : decode jb_M_findFar 97 = .ok (.iaload, 1) := by decide +kernel
theorem jd_M_findFar_98 : decode jb_M_findFar 98 = .ok (.if_icmp .lt 6, 3) := by decide +kernel
theorem jd_M_findFar_101 : decode jb_M_findFar 101 = .ok (.goto 21, 3) := by decide +kernel
theorem jd_M_findFar_104 : decode jb_M_findFar 104 = .ok (.aload_n 0, 1) := by decide +kernel
theorem jd_M_findFar_105 : decode jb_M_findFar 105 = .ok (.getfield 26, 3) := by decide +kernel
theorem jd_M_findFar_108 : decode jb_M_findFar 108 = .ok (.iload 4, 2) := by decide +kernel
theorem jd_M_findFar_110 : decode jb_M_findFar 110 = .ok (.aload_n 0, 1) := by decide +kernel
theorem jd_M_findFar_111 : decode jb_M_findFar 111 = .ok (.getfield 26, 3) := by decide +kernel
theorem jd_M_findFar_114 : decode jb_M_findFar 114 = .ok (.iload_n 3, 1) := by decide +kernel
theorem jd_M_findFar_115 : decode jb_M_findFar 115 = .ok (.iaload, 1) := by decide +kernel
theorem jd_M_findFar_116 : decode jb_M_findFar 116 = .ok (.iload 5, 2) := by decide +kernel
theorem jd_M_findFar_118 : decode jb_M_findFar 118 = .ok (.iadd, 1) := by decide +kernel
theorem jd_M_findFar_119 : decode jb_M_findFar 119 = .ok (.iastore, 1) := by decide +kernel
theorem jd_M_findFar_120 : decode jb_M_findFar 120 = .ok (.iconst 1, 1) := by decide +kernel
theorem jd_M_findFar_121 : decode jb_M_findFar 121 = .ok (.istore_n 2, 1) := by decide +kernel
theorem jd_M_findFar_122 : decode jb_M_findFar 122 = .ok (.iinc 4 1, 3) := by decide +kernel
theorem jd_M_findFar_125 : decode jb_M_findFar 125 = .ok (.goto (-71), 3) := by decide +kernel
theorem jd_M_findFar_128 : decode jb_M_findFar 128 = .ok (.iinc 3 1, 3) := by decide +kernel
theorem jd_M_findFar_131 : decode jb_M_findFar 131 = .ok (.goto (-88), 3) := by decide +kernel
theorem jd_M_findFar_134 : decode jb_M_findFar 134 = .ok (.goto (-99), 3) := by decide +kernel
theorem jd_M_findFar_137 : decode jb_M_findFar 137 = .ok (.return_, 1) := by decide +kernel
def f_M_findFar_122 (F : Nat) (kb54 : Int32 → Int32 → Int32 → j_M → Option (Int32 × j_M)) (x2 : Int32) (x3 : Int32) (x4 : Int32) (I : j_M) : Option (Int32 × j_M) := j_let (x4 + 1) (fun v1 => kb54 x2 x3 v1 I)
def f_M_findFar_54b (F : Nat) (kb54 : Int32 → Int32 → Int32 → j_M → Option (Int32 × j_M)) (kb43 : Int32 → Int32 → j_M → Option (Int32 × j_M)) (x2 : Int32) (x3 : Int32) (x4 : Int32) (I : j_M) : Option (Int32 × j_M) := (if (I 215 3) ≤ x4 then j_let (x3 + 1) (fun v2 => kb43 x2 v2 I) else (if j_ok ((16 * x3) + x4) 256 = true then j_let (I 218 (j_ix ((16 * x3) + x4))) (fun v3 => (if v3 = 0 then f_M_findFar_122 F kb54 x2 x3 x4 I else (if j_ok x3 16 = true then (if j_ok x4 16 = true then (if ((I 221 (j_ix x3)) + v3) < (I 221 (j_ix x4)) then (if j_ok x3 16 = true then (if j_ok x4 16 = true then j_let (j_wr I 221 (j_ix x4) ((I 221 (j_ix x3)) + v3)) (fun I4 => f_M_findFar_122 F kb54 1 x3 x4 I4) else none) else none) else f_M_findFar_122 F kb54 x2 x3 x4 I) else none) else none))) else none))
def f_M_findFar_54 (F : Nat) (kb43 : Int32 → Int32 → j_M → Option (Int32 × j_M)) (x2 : Int32) (x3 : Int32) (x4 : Int32) (I : j_M) : Option (Int32 × j_M) := j_it (fun (again : Int32 × Int32 × Int32 × j_M → Option (Int32 × j_M)) (q : Int32 × Int32 × Int32 × j_M) => f_M_findFar_54b F  (fun x2 x3 x4 I => again (x2, x3, x4, I)) kb43 q.1 q.2.1 q.2.2.1 q.2.2.2) F (x2, x3, x4, I)
def f_M_findFar_43b (F : Nat) (kb43 : Int32 → Int32 → j_M → Option (Int32 × j_M)) (kb35 : Int32 → j_M → Option (Int32 × j_M)) (x2 : Int32) (x3 : Int32) (I : j_M) : Option (Int32 × j_M) := (if (I 215 3) ≤ x3 then kb35 x2 I else f_M_findFar_54 F kb43 x2 x3 0 I)
def f_M_findFar_43 (F : Nat) (kb35 : Int32 → j_M → Option (Int32 × j_M)) (x2 : Int32) (x3 : Int32) (I : j_M) : Option (Int32 × j_M) := j_it (fun (again : Int32 × Int32 × j_M → Option (Int32 × j_M)) (q : Int32 × Int32 × j_M) => f_M_findFar_43b F  (fun x2 x3 I => again (x2, x3, I)) kb35 q.1 q.2.1 q.2.2) F (x2, x3, I)
def f_M_findFar_35b (F : Nat) (kb35 : Int32 → j_M → Option (Int32 × j_M)) (x2 : Int32) (I : j_M) : Option (Int32 × j_M) := (if x2 = 0 then some (0, I) else f_M_findFar_43 F kb35 0 0 I)
def f_M_findFar_35 (F : Nat)  (x2 : Int32) (I : j_M) : Option (Int32 × j_M) := j_it (fun (again : Int32 × j_M → Option (Int32 × j_M)) (q : Int32 × j_M) => f_M_findFar_35b F  (fun x2 I => again (x2, I))  q.1 q.2) F (x2, I)
def f_M_findFar_26 (F : Nat) (kb2 : Int32 → Int32 → j_M → Option (Int32 × j_M)) (x1 : Int32) (x2 : Int32) (s1 : Int32) (s2 : Int32) (I : j_M) : Option (Int32 × j_M) := (if j_ok s1 16 = true then j_let (j_wr I 221 (j_ix s1) s2) (fun I5 => j_let (x2 + 1) (fun v6 => kb2 x1 v6 I5)) else none)
def f_M_findFar_2b (F : Nat) (kb2 : Int32 → Int32 → j_M → Option (Int32 × j_M)) (x1 : Int32) (x2 : Int32) (I : j_M) : Option (Int32 × j_M) := (if (I 215 3) ≤ x2 then f_M_findFar_35 F 1 I else (if x2 = x1 then f_M_findFar_26 F kb2 x1 x2 x2 0 I else f_M_findFar_26 F kb2 x1 x2 x2 1000000 I))
def f_M_findFar_2 (F : Nat)  (x1 : Int32) (x2 : Int32) (I : j_M) : Option (Int32 × j_M) := j_it (fun (again : Int32 × Int32 × j_M → Option (Int32 × j_M)) (q : Int32 × Int32 × j_M) => f_M_findFar_2b F  (fun x1 x2 I => again (x1, x2, I))  q.1 q.2.1 q.2.2) F (x1, x2, I)
def f_M_findFar (F : Nat) (x1 : Int32) (I : j_M) : Option (Int32 × j_M) := f_M_findFar_2 F x1 0 I
set_option maxRecDepth 100000 in
set_option maxHeartbeats 4000000 in
theorem k_M_findFar_122 {p : Program} {l : Launch} {e : Env} {R : Room} {s : State} {m : MethodId} {args : Array Value} {below : List Frame} {meth : Method} {c : Code} {g : j_G} {b n : Nat} {P : j_R} {F : Nat} (hF : j_Fx 0 260 P) (hn : 260 ≤ n) (X : j_X p R s m args meth c g b 0 jb_M_findFar 6 "PleasureGardenModel" none) {kb54 : Int32 → Int32 → Int32 → j_M → Option (Int32 × j_M)} (hkb54 : ∀ (x2 : Int32) (x3 : Int32) (x4 : Int32) (I : j_M) (r : Int32 × j_M), kb54 x2 x3 x4 I = some r → j_W p l e R s m args below meth c 6 g b n 0 0 (j_Qv g b n P below args s r) I P 54 [some (.ref (b + 215)), none, some (.int x2), some (.int x3), some (.int x4), none] []) {x2 : Int32} {x3 : Int32} {x4 : Int32} {I : j_M} {r : Int32 × j_M}  (h : f_M_findFar_122 F kb54 x2 x3 x4 I = some r) : j_W p l e R s m args below meth c 6 g b n 0 0 (j_Qv g b n P below args s r) I P 122 [some (.ref (b + 215)), none, some (.int x2), some (.int x3), some (.int x4), none] [] := by
  unfold f_M_findFar_122 at h
  obtain ⟨v1, ev1, h⟩ := j_ex h
  refine j_iinc (v := v1) (lv' := [some (.ref (b + 215)), none, some (.int x2), some (.int x3), some (.int v1), none]) X jd_M_findFar_122 rfl (by rw [ev1]; rfl) (by decide) rfl ?_
  refine j_goto (tgt := 54) X jd_M_findFar_125 rfl ?_
  exact hkb54 _ _ _ _ _ h
set_option maxRecDepth 100000 in
set_option maxHeartbeats 4000000 in
theorem k_M_findFar_54b {p : Program} {l : Launch} {e : Env} {R : Room} {s : State} {m : MethodId} {args : Array Value} {below : List Frame} {meth : Method} {c : Code} {g : j_G} {b n : Nat} {P : j_R} {F : Nat} (hF : j_Fx 0 260 P) (hn : 260 ≤ n) (X : j_X p R s m args meth c g b 0 jb_M_findFar 6 "PleasureGardenModel" none) {kb54 : Int32 → Int32 → Int32 → j_M → Option (Int32 × j_M)} (hkb54 : ∀ (x2 : Int32) (x3 : Int32) (x4 : Int32) (I : j_M) (r : Int32 × j_M), kb54 x2 x3 x4 I = some r → j_W p l e R s m args below meth c 6 g b n 0 0 (j_Qv g b n P below args s r) I P 54 [some (.ref (b + 215)), none, some (.int x2), some (.int x3), some (.int x4), none] []) {kb43 : Int32 → Int32 → j_M → Option (Int32 × j_M)} (hkb43 : ∀ (x2 : Int32) (x3 : Int32) (I : j_M) (r : Int32 × j_M), kb43 x2 x3 I = some r → j_W p l e R s m args below meth c 6 g b n 0 0 (j_Qv g b n P below args s r) I P 43 [some (.ref (b + 215)), none, some (.int x2), some (.int x3), none, none] []) {x2 : Int32} {x3 : Int32} {x4 : Int32} {I : j_M} {r : Int32 × j_M}  (h : f_M_findFar_54b F kb54 kb43 x2 x3 x4 I = some r) : j_W p l e R s m args below meth c 6 g b n 0 0 (j_Qv g b n P below args s r) I P 54 [some (.ref (b + 215)), none, some (.int x2), some (.int x3), some (.int x4), none] [] := by
  unfold f_M_findFar_54b at h
  refine j_iload X jd_M_findFar_54 rfl ?_
  refine j_aload_n X jd_M_findFar_56 rfl rfl ?_
  refine j_get X jf_M_155 jk_12_3 js_215 (j_lt rfl hn) jd_M_findFar_57 ?_
  refine j_icmp_ge (tgt := 128) X jd_M_findFar_60 rfl h (fun h => ?_) (fun h => ?_)
  · obtain ⟨v2, ev2, h⟩ := j_ex h
    refine j_iinc (v := v2) (lv' := [some (.ref (b + 215)), none, some (.int x2), some (.int v2), some (.int x4), none]) X jd_M_findFar_128 rfl (by rw [ev2]; rfl) (by decide) rfl ?_
    refine j_goto (tgt := 43) X jd_M_findFar_131 rfl ?_
    refine j_sub [true, false, true, true, false, false] (lv' := [some (.ref (b + 215)), none, some (.int x2), some (.int v2), none, none]) rfl ?_
    exact hkb43 _ _ _ _ h
  · refine j_aload_n X jd_M_findFar_63 rfl rfl ?_
    refine j_getr X jf_M_17 jk_12_6 js_215 (j_lt rfl hn) (jp_215_6 hF) jd_M_findFar_64 ?_
    refine j_bipush (v := 16) X jd_M_findFar_67 (by decide) ?_
    refine j_iload_n X jd_M_findFar_69 rfl rfl ?_
    refine j_imul X jd_M_findFar_70 ?_
    refine j_iload X jd_M_findFar_71 rfl ?_
    refine j_iadd X jd_M_findFar_73 ?_
    refine j_iald X js_218 (j_lt rfl hn) jd_M_findFar_74 h (fun _ h => ?_)
    refine j_nm h (fun v3 h => ?_)
    refine j_istore (lv' := [some (.ref (b + 215)), none, some (.int x2), some (.int x3), some (.int x4), some (.int v3)]) X jd_M_findFar_75 (by decide) rfl ?_
    refine j_iload X jd_M_findFar_77 rfl ?_
    refine j_if_eq (tgt := 122) X jd_M_findFar_79 rfl h (fun h => ?_) (fun h => ?_)
    · refine j_sub [true, false, true, true, true, false] (lv' := [some (.ref (b + 215)), none, some (.int x2), some (.int x3), some (.int x4), none]) rfl ?_
      exact k_M_findFar_122 hF hn X hkb54 h
    · refine j_aload_n X jd_M_findFar_82 rfl rfl ?_
      refine j_getr X jf_M_26 jk_12_10 js_215 (j_lt rfl hn) (jp_215_10 hF) jd_M_findFar_83 ?_
      refine j_iload_n X jd_M_findFar_86 rfl rfl ?_
      refine j_iald X js_221 (j_lt rfl hn) jd_M_findFar_87 h (fun _ h => ?_)
      refine j_iload X jd_M_findFar_88 rfl ?_
      refine j_iadd X jd_M_findFar_90 ?_
      refine j_aload_n X jd_M_findFar_91 rfl rfl ?_
      refine j_getr X jf_M_26 jk_12_10 js_215 (j_lt rfl hn) (jp_215_10 hF) jd_M_findFar_92 ?_
      refine j_iload X jd_M_findFar_95 rfl ?_
      refine j_iald X js_221 (j_lt rfl hn) jd_M_findFar_97 h (fun _ h => ?_)
      refine j_icmp_lt (tgt := 104) X jd_M_findFar_98 rfl h (fun h => ?_) (fun h => ?_)
      · refine j_aload_n X jd_M_findFar_104 rfl rfl ?_
        refine j_getr X jf_M_26 jk_12_10 js_215 (j_lt rfl hn) (jp_215_10 hF) jd_M_findFar_105 ?_
        refine j_iload X jd_M_findFar_108 rfl ?_
        refine j_aload_n X jd_M_findFar_110 rfl rfl ?_
        refine j_getr X jf_M_26 jk_12_10 js_215 (j_lt rfl hn) (jp_215_10 hF) jd_M_findFar_111 ?_
        refine j_iload_n X jd_M_findFar_114 rfl rfl ?_
        refine j_iald X js_221 (j_lt rfl hn) jd_M_findFar_115 h (fun _ h => ?_)
        refine j_iload X jd_M_findFar_116 rfl ?_
        refine j_iadd X jd_M_findFar_118 ?_
        refine j_iast X js_221 (j_lt rfl hn) jd_M_findFar_119 h (fun h => ?_)
        refine j_mem h (fun I4 h => ?_)
        refine j_iconst (v := 1) X jd_M_findFar_120 (by decide) ?_
        refine j_istore_n (lv' := [some (.ref (b + 215)), none, some (.int 1), some (.int x3), some (.int x4), some (.int v3)]) X jd_M_findFar_121 rfl (by decide) rfl ?_
        refine j_sub [true, false, true, true, true, false] (lv' := [some (.ref (b + 215)), none, some (.int 1), some (.int x3), some (.int x4), none]) rfl ?_
        exact k_M_findFar_122 hF hn X hkb54 h
      · refine j_goto (tgt := 122) X jd_M_findFar_101 rfl ?_
        refine j_sub [true, false, true, true, true, false] (lv' := [some (.ref (b + 215)), none, some (.int x2), some (.int x3), some (.int x4), none]) rfl ?_
        exact k_M_findFar_122 hF hn X hkb54 h
set_option maxRecDepth 100000 in
set_option maxHeartbeats 4000000 in
theorem k_M_findFar_54 {p : Program} {l : Launch} {e : Env} {R : Room} {s : State} {m : MethodId} {args : Array Value} {below : List Frame} {meth : Method} {c : Code} {g : j_G} {b n : Nat} {P : j_R} {F : Nat} (hF : j_Fx 0 260 P) (hn : 260 ≤ n) (X : j_X p R s m args meth c g b 0 jb_M_findFar 6 "PleasureGardenModel" none) {kb43 : Int32 → Int32 → j_M → Option (Int32 × j_M)} (hkb43 : ∀ (x2 : Int32) (x3 : Int32) (I : j_M) (r : Int32 × j_M), kb43 x2 x3 I = some r → j_W p l e R s m args below meth c 6 g b n 0 0 (j_Qv g b n P below args s r) I P 43 [some (.ref (b + 215)), none, some (.int x2), some (.int x3), none, none] []) {x2 : Int32} {x3 : Int32} {x4 : Int32} {I : j_M} {r : Int32 × j_M} (h : f_M_findFar_54 F kb43 x2 x3 x4 I = some r) : j_W p l e R s m args below meth c 6 g b n 0 0 (j_Qv g b n P below args s r) I P 54 [some (.ref (b + 215)), none, some (.int x2), some (.int x3), some (.int x4), none] [] := by
  refine j_loop (G := fun (q : Int32 × Int32 × Int32 × j_M) (r : Int32 × j_M) => j_W p l e R s m args below meth c 6 g b n 0 0 (j_Qv g b n P below args s r) q.2.2.2 P 54 [some (.ref (b + 215)), none, some (.int (q.1)), some (.int (q.2.1)), some (.int (q.2.2.1)), none] []) ?_ F (x2, x3, x4, I) r h
  intro again hrec0 q r h
  exact k_M_findFar_54b hF hn X (fun x2 x3 x4 I r h => hrec0 (x2, x3, x4, I) r h) hkb43 h
set_option maxRecDepth 100000 in
set_option maxHeartbeats 4000000 in
theorem k_M_findFar_43b {p : Program} {l : Launch} {e : Env} {R : Room} {s : State} {m : MethodId} {args : Array Value} {below : List Frame} {meth : Method} {c : Code} {g : j_G} {b n : Nat} {P : j_R} {F : Nat} (hF : j_Fx 0 260 P) (hn : 260 ≤ n) (X : j_X p R s m args meth c g b 0 jb_M_findFar 6 "PleasureGardenModel" none) {kb43 : Int32 → Int32 → j_M → Option (Int32 × j_M)} (hkb43 : ∀ (x2 : Int32) (x3 : Int32) (I : j_M) (r : Int32 × j_M), kb43 x2 x3 I = some r → j_W p l e R s m args below meth c 6 g b n 0 0 (j_Qv g b n P below args s r) I P 43 [some (.ref (b + 215)), none, some (.int x2), some (.int x3), none, none] []) {kb35 : Int32 → j_M → Option (Int32 × j_M)} (hkb35 : ∀ (x2 : Int32) (I : j_M) (r : Int32 × j_M), kb35 x2 I = some r → j_W p l e R s m args below meth c 6 g b n 0 0 (j_Qv g b n P below args s r) I P 35 [some (.ref (b + 215)), none, some (.int x2), none, none, none] []) {x2 : Int32} {x3 : Int32} {I : j_M} {r : Int32 × j_M}  (h : f_M_findFar_43b F kb43 kb35 x2 x3 I = some r) : j_W p l e R s m args below meth c 6 g b n 0 0 (j_Qv g b n P below args s r) I P 43 [some (.ref (b + 215)), none, some (.int x2), some (.int x3), none, none] [] := by
  unfold f_M_findFar_43b at h
  refine j_iload_n X jd_M_findFar_43 rfl rfl ?_
  refine j_aload_n X jd_M_findFar_44 rfl rfl ?_
  refine j_get X jf_M_155 jk_12_3 js_215 (j_lt rfl hn) jd_M_findFar_45 ?_
  refine j_icmp_ge (tgt := 134) X jd_M_findFar_48 rfl h (fun h => ?_) (fun h => ?_)
  · refine j_goto (tgt := 35) X jd_M_findFar_134 rfl ?_
    refine j_sub [true, false, true, false, false, false] (lv' := [some (.ref (b + 215)), none, some (.int x2), none, none, none]) rfl ?_
    exact hkb35 _ _ _ h
  · refine j_iconst (v := 0) X jd_M_findFar_51 (by decide) ?_
    refine j_istore (lv' := [some (.ref (b + 215)), none, some (.int x2), some (.int x3), some (.int 0), none]) X jd_M_findFar_52 (by decide) rfl ?_
    exact k_M_findFar_54 hF hn X hkb43 h
set_option maxRecDepth 100000 in
set_option maxHeartbeats 4000000 in
theorem k_M_findFar_43 {p : Program} {l : Launch} {e : Env} {R : Room} {s : State} {m : MethodId} {args : Array Value} {below : List Frame} {meth : Method} {c : Code} {g : j_G} {b n : Nat} {P : j_R} {F : Nat} (hF : j_Fx 0 260 P) (hn : 260 ≤ n) (X : j_X p R s m args meth c g b 0 jb_M_findFar 6 "PleasureGardenModel" none) {kb35 : Int32 → j_M → Option (Int32 × j_M)} (hkb35 : ∀ (x2 : Int32) (I : j_M) (r : Int32 × j_M), kb35 x2 I = some r → j_W p l e R s m args below meth c 6 g b n 0 0 (j_Qv g b n P below args s r) I P 35 [some (.ref (b + 215)), none, some (.int x2), none, none, none] []) {x2 : Int32} {x3 : Int32} {I : j_M} {r : Int32 × j_M} (h : f_M_findFar_43 F kb35 x2 x3 I = some r) : j_W p l e R s m args below meth c 6 g b n 0 0 (j_Qv g b n P below args s r) I P 43 [some (.ref (b + 215)), none, some (.int x2), some (.int x3), none, none] [] := by
  refine j_loop (G := fun (q : Int32 × Int32 × j_M) (r : Int32 × j_M) => j_W p l e R s m args below meth c 6 g b n 0 0 (j_Qv g b n P below args s r) q.2.2 P 43 [some (.ref (b + 215)), none, some (.int (q.1)), some (.int (q.2.1)), none, none] []) ?_ F (x2, x3, I) r h
  intro again hrec0 q r h
  exact k_M_findFar_43b hF hn X (fun x2 x3 I r h => hrec0 (x2, x3, I) r h) hkb35 h
set_option maxRecDepth 100000 in
set_option maxHeartbeats 4000000 in
theorem k_M_findFar_35b {p : Program} {l : Launch} {e : Env} {R : Room} {s : State} {m : MethodId} {args : Array Value} {below : List Frame} {meth : Method} {c : Code} {g : j_G} {b n : Nat} {P : j_R} {F : Nat} (hF : j_Fx 0 260 P) (hn : 260 ≤ n) (X : j_X p R s m args meth c g b 0 jb_M_findFar 6 "PleasureGardenModel" none) {kb35 : Int32 → j_M → Option (Int32 × j_M)} (hkb35 : ∀ (x2 : Int32) (I : j_M) (r : Int32 × j_M), kb35 x2 I = some r → j_W p l e R s m args below meth c 6 g b n 0 0 (j_Qv g b n P below args s r) I P 35 [some (.ref (b + 215)), none, some (.int x2), none, none, none] []) {x2 : Int32} {I : j_M} {r : Int32 × j_M}  (h : f_M_findFar_35b F kb35 x2 I = some r) : j_W p l e R s m args below meth c 6 g b n 0 0 (j_Qv g b n P below args s r) I P 35 [some (.ref (b + 215)), none, some (.int x2), none, none, none] [] := by
  unfold f_M_findFar_35b at h
  refine j_iload_n X jd_M_findFar_35 rfl rfl ?_
  refine j_if_eq (tgt := 137) X jd_M_findFar_36 rfl h (fun h => ?_) (fun h => ?_)
  · exact j_vret X rfl jd_M_findFar_137 h
  · refine j_iconst (v := 0) X jd_M_findFar_39 (by decide) ?_
    refine j_istore_n (lv' := [some (.ref (b + 215)), none, some (.int 0), none, none, none]) X jd_M_findFar_40 rfl (by decide) rfl ?_
    refine j_iconst (v := 0) X jd_M_findFar_41 (by decide) ?_
    refine j_istore_n (lv' := [some (.ref (b + 215)), none, some (.int 0), some (.int 0), none, none]) X jd_M_findFar_42 rfl (by decide) rfl ?_
    exact k_M_findFar_43 hF hn X hkb35 h
set_option maxRecDepth 100000 in
set_option maxHeartbeats 4000000 in
theorem k_M_findFar_35 {p : Program} {l : Launch} {e : Env} {R : Room} {s : State} {m : MethodId} {args : Array Value} {below : List Frame} {meth : Method} {c : Code} {g : j_G} {b n : Nat} {P : j_R} {F : Nat} (hF : j_Fx 0 260 P) (hn : 260 ≤ n) (X : j_X p R s m args meth c g b 0 jb_M_findFar 6 "PleasureGardenModel" none)  {x2 : Int32} {I : j_M} {r : Int32 × j_M} (h : f_M_findFar_35 F x2 I = some r) : j_W p l e R s m args below meth c 6 g b n 0 0 (j_Qv g b n P below args s r) I P 35 [some (.ref (b + 215)), none, some (.int x2), none, none, none] [] := by
  refine j_loop (G := fun (q : Int32 × j_M) (r : Int32 × j_M) => j_W p l e R s m args below meth c 6 g b n 0 0 (j_Qv g b n P below args s r) q.2 P 35 [some (.ref (b + 215)), none, some (.int (q.1)), none, none, none] []) ?_ F (x2, I) r h
  intro again hrec0 q r h
  exact k_M_findFar_35b hF hn X (fun x2 I r h => hrec0 (x2, I) r h)  h
set_option maxRecDepth 100000 in
set_option maxHeartbeats 4000000 in
theorem k_M_findFar_26 {p : Program} {l : Launch} {e : Env} {R : Room} {s : State} {m : MethodId} {args : Array Value} {below : List Frame} {meth : Method} {c : Code} {g : j_G} {b n : Nat} {P : j_R} {F : Nat} (hF : j_Fx 0 260 P) (hn : 260 ≤ n) (X : j_X p R s m args meth c g b 0 jb_M_findFar 6 "PleasureGardenModel" none) {kb2 : Int32 → Int32 → j_M → Option (Int32 × j_M)} (hkb2 : ∀ (x1 : Int32) (x2 : Int32) (I : j_M) (r : Int32 × j_M), kb2 x1 x2 I = some r → j_W p l e R s m args below meth c 6 g b n 0 0 (j_Qv g b n P below args s r) I P 2 [some (.ref (b + 215)), some (.int x1), some (.int x2), none, none, none] []) {x1 : Int32} {x2 : Int32} {s1 : Int32} {s2 : Int32} {I : j_M} {r : Int32 × j_M}  (h : f_M_findFar_26 F kb2 x1 x2 s1 s2 I = some r) : j_W p l e R s m args below meth c 6 g b n 0 0 (j_Qv g b n P below args s r) I P 26 [some (.ref (b + 215)), some (.int x1), some (.int x2), none, none, none] [.int s2, .int s1, .ref (b + 221)] := by
  unfold f_M_findFar_26 at h
  refine j_iast X js_221 (j_lt rfl hn) jd_M_findFar_26 h (fun h => ?_)
  refine j_mem h (fun I5 h => ?_)
  obtain ⟨v6, ev6, h⟩ := j_ex h
  refine j_iinc (v := v6) (lv' := [some (.ref (b + 215)), some (.int x1), some (.int v6), none, none, none]) X jd_M_findFar_27 rfl (by rw [ev6]; rfl) (by decide) rfl ?_
  refine j_goto (tgt := 2) X jd_M_findFar_30 rfl ?_
  exact hkb2 _ _ _ _ h
set_option maxRecDepth 100000 in
set_option maxHeartbeats 4000000 in
theorem k_M_findFar_2b {p : Program} {l : Launch} {e : Env} {R : Room} {s : State} {m : MethodId} {args : Array Value} {below : List Frame} {meth : Method} {c : Code} {g : j_G} {b n : Nat} {P : j_R} {F : Nat} (hF : j_Fx 0 260 P) (hn : 260 ≤ n) (X : j_X p R s m args meth c g b 0 jb_M_findFar 6 "PleasureGardenModel" none) {kb2 : Int32 → Int32 → j_M → Option (Int32 × j_M)} (hkb2 : ∀ (x1 : Int32) (x2 : Int32) (I : j_M) (r : Int32 × j_M), kb2 x1 x2 I = some r → j_W p l e R s m args below meth c 6 g b n 0 0 (j_Qv g b n P below args s r) I P 2 [some (.ref (b + 215)), some (.int x1), some (.int x2), none, none, none] []) {x1 : Int32} {x2 : Int32} {I : j_M} {r : Int32 × j_M}  (h : f_M_findFar_2b F kb2 x1 x2 I = some r) : j_W p l e R s m args below meth c 6 g b n 0 0 (j_Qv g b n P below args s r) I P 2 [some (.ref (b + 215)), some (.int x1), some (.int x2), none, none, none] [] := by
  unfold f_M_findFar_2b at h
  refine j_iload_n X jd_M_findFar_2 rfl rfl ?_
  refine j_aload_n X jd_M_findFar_3 rfl rfl ?_
  refine j_get X jf_M_155 jk_12_3 js_215 (j_lt rfl hn) jd_M_findFar_4 ?_
  refine j_icmp_ge (tgt := 33) X jd_M_findFar_7 rfl h (fun h => ?_) (fun h => ?_)
  · refine j_iconst (v := 1) X jd_M_findFar_33 (by decide) ?_
    refine j_istore_n (lv' := [some (.ref (b + 215)), some (.int x1), some (.int 1), none, none, none]) X jd_M_findFar_34 rfl (by decide) rfl ?_
    refine j_sub [true, false, true, false, false, false] (lv' := [some (.ref (b + 215)), none, some (.int 1), none, none, none]) rfl ?_
    exact k_M_findFar_35 hF hn X h
  · refine j_aload_n X jd_M_findFar_10 rfl rfl ?_
    refine j_getr X jf_M_26 jk_12_10 js_215 (j_lt rfl hn) (jp_215_10 hF) jd_M_findFar_11 ?_
    refine j_iload_n X jd_M_findFar_14 rfl rfl ?_
    refine j_iload_n X jd_M_findFar_15 rfl rfl ?_
    refine j_iload_n X jd_M_findFar_16 rfl rfl ?_
    refine j_icmp_ne (tgt := 24) X jd_M_findFar_17 rfl h (fun h => ?_) (fun h => ?_)
    · refine j_iconst (v := 0) X jd_M_findFar_20 (by decide) ?_
      refine j_goto (tgt := 26) X jd_M_findFar_21 rfl ?_
      exact k_M_findFar_26 hF hn X hkb2 h
    · refine j_ldc (v := 1000000) X jlc_M_166 jd_M_findFar_24 ?_
      exact k_M_findFar_26 hF hn X hkb2 h
set_option maxRecDepth 100000 in
set_option maxHeartbeats 4000000 in
theorem k_M_findFar_2 {p : Program} {l : Launch} {e : Env} {R : Room} {s : State} {m : MethodId} {args : Array Value} {below : List Frame} {meth : Method} {c : Code} {g : j_G} {b n : Nat} {P : j_R} {F : Nat} (hF : j_Fx 0 260 P) (hn : 260 ≤ n) (X : j_X p R s m args meth c g b 0 jb_M_findFar 6 "PleasureGardenModel" none)  {x1 : Int32} {x2 : Int32} {I : j_M} {r : Int32 × j_M} (h : f_M_findFar_2 F x1 x2 I = some r) : j_W p l e R s m args below meth c 6 g b n 0 0 (j_Qv g b n P below args s r) I P 2 [some (.ref (b + 215)), some (.int x1), some (.int x2), none, none, none] [] := by
  refine j_loop (G := fun (q : Int32 × Int32 × j_M) (r : Int32 × j_M) => j_W p l e R s m args below meth c 6 g b n 0 0 (j_Qv g b n P below args s r) q.2.2 P 2 [some (.ref (b + 215)), some (.int (q.1)), some (.int (q.2.1)), none, none, none] []) ?_ F (x1, x2, I) r h
  intro again hrec0 q r h
  exact k_M_findFar_2b hF hn X (fun x1 x2 I r h => hrec0 (x1, x2, I) r h)  h
set_option maxRecDepth 100000 in
set_option maxHeartbeats 4000000 in
theorem k_M_findFar {l : Launch} {g : j_G} {b n : Nat} {P : j_R} {F : Nat} (hF : j_Fx 0 260 P) (hn : 260 ≤ n) {x1 : Int32} {I : j_M} {r : Int32 × j_M}  (h : f_M_findFar F x1 I = some r) : j_Met l g b n P 0 jy_M_findFar jb_M_findFar 6 none [.ref (b + 215), .int x1] I r.2 none := by
  unfold f_M_findFar at h
  refine j_enter (plainFor_of_name (by decide)) (Nat.le_of_ble_eq_true rfl) [some (.ref (b + 215)), some (.int x1), none, none, none, none] rfl ?_
  intro p e R s m args below meth c X0 hnm hRc hRs
  have X : j_X p R s m args meth c g b 0 jb_M_findFar 6 "PleasureGardenModel" none := X0
  clear X0
  refine j_iconst (v := 0) X jd_M_findFar_0 (by decide) ?_
  refine j_istore_n (lv' := [some (.ref (b + 215)), some (.int x1), some (.int 0), none, none, none]) X jd_M_findFar_1 rfl (by decide) rfl ?_
  exact k_M_findFar_2 hF hn X h
-- PleasureGardenModel.rainsIn(I)Z
theorem jd_M_rainsIn_0 : decode jb_M_rainsIn 0 = .ok (.iconst 0, 1) := by decide +kernel
theorem jd_M_rainsIn_1 : decode jb_M_rainsIn 1 = .ok (.istore_n 2, 1) := by decide +kernel
theorem jd_M_rainsIn_2 : decode jb_M_rainsIn 2 = .ok (.iload_n 2, 1) := by decide +kernel
theorem jd_M_rainsIn_3 : decode jb_M_rainsIn 3 = .ok (.aload_n 0, 1) := by decide +kernel
theorem jd_M_rainsIn_4 : decode jb_M_rainsIn 4 = .ok (.getfield 174, 3) := by decide +kernel
theorem jd_M_rainsIn_7 : decode jb_M_rainsIn 7 = .ok (.if_icmp .ge 31, 3) := by decide +kernel
theorem jd_M_rainsIn_10 : decode jb_M_rainsIn 10 = .ok (.iload_n 1, 1) := by decide +kernel
theorem jd_M_rainsIn_11 : decode jb_M_rainsIn 11 = .ok (.aload_n 0, 1) := by decide +kernel
theorem jd_M_rainsIn_12 : decode jb_M_rainsIn 12 = .ok (.getfield 20, 3) := by decide +kernel
theorem jd_M_rainsIn_15 : decode jb_M_rainsIn 15 = .ok (.iload_n 2, 1) := by decide +kernel
theorem jd_M_rainsIn_16 : decode jb_M_rainsIn 16 = .ok (.iaload, 1) := by decide +kernel
theorem jd_M_rainsIn_17 : decode jb_M_rainsIn 17 = .ok (.if_icmp .lt 15, 3) := by decide +kernel
theorem jd_M_rainsIn_20 : decode jb_M_rainsIn 20 = .ok (.iload_n 1, 1) := by decide +kernel
theorem jd_M_rainsIn_21 : decode jb_M_rainsIn 21 = .ok (.aload_n 0, 1) := by decide +kernel
theorem jd_M_rainsIn_22 : decode jb_M_rainsIn 22 = .ok (.getfield 23, 3) := by decide +kernel
theorem jd_M_rainsIn_25 : decode jb_M_rainsIn 25 = .ok (.iload_n 2, 1) := by decide +kernel
theorem jd_M_rainsIn_26 : decode jb_M_rainsIn 26 = .ok (.iaload, 1) := by decide +kernel
theorem jd_M_rainsIn_27 : decode jb_M_rainsIn 27 = .ok (.if_icmp .ge 5, 3) := by decide +kernel
theorem jd_M_rainsIn_30 : decode jb_M_rainsIn 30 = .ok (.iconst 1, 1) := by decide +kernel
theorem jd_M_rainsIn_31 : decode jb_M_rainsIn 31 = .ok (.ireturn, 1) := by decide +kernel
theorem jd_M_rainsIn_32 : decode jb_M_rainsIn 32 = .ok (.iinc 2 1, 3) := by decide +kernel
theorem jd_M_rainsIn_35 : decode jb_M_rainsIn 35 = .ok (.goto (-33), 3) := by decide +kernel
theorem jd_M_rainsIn_38 : decode jb_M_rainsIn 38 = .ok (.iconst 0, 1) := by decide +kernel
theorem jd_M_rainsIn_39 : decode jb_M_rainsIn 39 = .ok (.ireturn, 1) := by decide +kernel
def f_M_rainsIn_32 (F : Nat) (kb2 : Int32 → Int32 → j_M → Option (Int32 × j_M)) (x1 : Int32) (x2 : Int32) (I : j_M) : Option (Int32 × j_M) := j_let (x2 + 1) (fun v1 => kb2 x1 v1 I)
def f_M_rainsIn_2b (F : Nat) (kb2 : Int32 → Int32 → j_M → Option (Int32 × j_M)) (x1 : Int32) (x2 : Int32) (I : j_M) : Option (Int32 × j_M) := (if (I 215 7) ≤ x2 then some (0, I) else (if j_ok x2 20 = true then (if x1 < (I 219 (j_ix x2)) then f_M_rainsIn_32 F kb2 x1 x2 I else (if j_ok x2 20 = true then (if (I 220 (j_ix x2)) ≤ x1 then f_M_rainsIn_32 F kb2 x1 x2 I else some (1, I)) else none)) else none))
def f_M_rainsIn_2 (F : Nat)  (x1 : Int32) (x2 : Int32) (I : j_M) : Option (Int32 × j_M) := j_it (fun (again : Int32 × Int32 × j_M → Option (Int32 × j_M)) (q : Int32 × Int32 × j_M) => f_M_rainsIn_2b F  (fun x1 x2 I => again (x1, x2, I))  q.1 q.2.1 q.2.2) F (x1, x2, I)
def f_M_rainsIn (F : Nat) (x1 : Int32) (I : j_M) : Option (Int32 × j_M) := f_M_rainsIn_2 F x1 0 I
set_option maxRecDepth 100000 in
set_option maxHeartbeats 4000000 in
theorem k_M_rainsIn_32 {p : Program} {l : Launch} {e : Env} {R : Room} {s : State} {m : MethodId} {args : Array Value} {below : List Frame} {meth : Method} {c : Code} {g : j_G} {b n : Nat} {P : j_R} {F : Nat} (hF : j_Fx 0 260 P) (hn : 260 ≤ n) (X : j_X p R s m args meth c g b 0 jb_M_rainsIn 3 "PleasureGardenModel" (some .boolean)) {kb2 : Int32 → Int32 → j_M → Option (Int32 × j_M)} (hkb2 : ∀ (x1 : Int32) (x2 : Int32) (I : j_M) (r : Int32 × j_M), kb2 x1 x2 I = some r → j_W p l e R s m args below meth c 3 g b n 0 0 (j_Qi g b n P below args s r) I P 2 [some (.ref (b + 215)), some (.int x1), some (.int x2)] []) {x1 : Int32} {x2 : Int32} {I : j_M} {r : Int32 × j_M}  (h : f_M_rainsIn_32 F kb2 x1 x2 I = some r) : j_W p l e R s m args below meth c 3 g b n 0 0 (j_Qi g b n P below args s r) I P 32 [some (.ref (b + 215)), some (.int x1), some (.int x2)] [] := by
  unfold f_M_rainsIn_32 at h
  obtain ⟨v1, ev1, h⟩ := j_ex h
  refine j_iinc (v := v1) (lv' := [some (.ref (b + 215)), some (.int x1), some (.int v1)]) X jd_M_rainsIn_32 rfl (by rw [ev1]; rfl) (by decide) rfl ?_
  refine j_goto (tgt := 2) X jd_M_rainsIn_35 rfl ?_
  exact hkb2 _ _ _ _ h
set_option maxRecDepth 100000 in
set_option maxHeartbeats 4000000 in
theorem k_M_rainsIn_2b {p : Program} {l : Launch} {e : Env} {R : Room} {s : State} {m : MethodId} {args : Array Value} {below : List Frame} {meth : Method} {c : Code} {g : j_G} {b n : Nat} {P : j_R} {F : Nat} (hF : j_Fx 0 260 P) (hn : 260 ≤ n) (X : j_X p R s m args meth c g b 0 jb_M_rainsIn 3 "PleasureGardenModel" (some .boolean)) {kb2 : Int32 → Int32 → j_M → Option (Int32 × j_M)} (hkb2 : ∀ (x1 : Int32) (x2 : Int32) (I : j_M) (r : Int32 × j_M), kb2 x1 x2 I = some r → j_W p l e R s m args below meth c 3 g b n 0 0 (j_Qi g b n P below args s r) I P 2 [some (.ref (b + 215)), some (.int x1), some (.int x2)] []) {x1 : Int32} {x2 : Int32} {I : j_M} {r : Int32 × j_M}  (h : f_M_rainsIn_2b F kb2 x1 x2 I = some r) : j_W p l e R s m args below meth c 3 g b n 0 0 (j_Qi g b n P below args s r) I P 2 [some (.ref (b + 215)), some (.int x1), some (.int x2)] [] := by
  unfold f_M_rainsIn_2b at h
  refine j_iload_n X jd_M_rainsIn_2 rfl rfl ?_
  refine j_aload_n X jd_M_rainsIn_3 rfl rfl ?_
  refine j_get X jf_M_174 jk_12_7 js_215 (j_lt rfl hn) jd_M_rainsIn_4 ?_
  refine j_icmp_ge (tgt := 38) X jd_M_rainsIn_7 rfl h (fun h => ?_) (fun h => ?_)
  · refine j_iconst (v := 0) X jd_M_rainsIn_38 (by decide) ?_
    exact j_zret X rfl (by decide) jd_M_rainsIn_39 h
  · refine j_iload_n X jd_M_rainsIn_10 rfl rfl ?_
    refine j_aload_n X jd_M_rainsIn_11 rfl rfl ?_
    refine j_getr X jf_M_20 jk_12_8 js_215 (j_lt rfl hn) (jp_215_8 hF) jd_M_rainsIn_12 ?_
    refine j_iload_n X jd_M_rainsIn_15 rfl rfl ?_
    refine j_iald X js_219 (j_lt rfl hn) jd_M_rainsIn_16 h (fun _ h => ?_)
    refine j_icmp_lt (tgt := 32) X jd_M_rainsIn_17 rfl h (fun h => ?_) (fun h => ?_)
    · exact k_M_rainsIn_32 hF hn X hkb2 h
    · refine j_iload_n X jd_M_rainsIn_20 rfl rfl ?_
      refine j_aload_n X jd_M_rainsIn_21 rfl rfl ?_
      refine j_getr X jf_M_23 jk_12_9 js_215 (j_lt rfl hn) (jp_215_9 hF) jd_M_rainsIn_22 ?_
      refine j_iload_n X jd_M_rainsIn_25 rfl rfl ?_
      refine j_iald X js_220 (j_lt rfl hn) jd_M_rainsIn_26 h (fun _ h => ?_)
      refine j_icmp_ge (tgt := 32) X jd_M_rainsIn_27 rfl h (fun h => ?_) (fun h => ?_)
      · exact k_M_rainsIn_32 hF hn X hkb2 h
      · refine j_iconst (v := 1) X jd_M_rainsIn_30 (by decide) ?_
        exact j_zret X rfl (by decide) jd_M_rainsIn_31 h
set_option maxRecDepth 100000 in
set_option maxHeartbeats 4000000 in
theorem k_M_rainsIn_2 {p : Program} {l : Launch} {e : Env} {R : Room} {s : State} {m : MethodId} {args : Array Value} {below : List Frame} {meth : Method} {c : Code} {g : j_G} {b n : Nat} {P : j_R} {F : Nat} (hF : j_Fx 0 260 P) (hn : 260 ≤ n) (X : j_X p R s m args meth c g b 0 jb_M_rainsIn 3 "PleasureGardenModel" (some .boolean))  {x1 : Int32} {x2 : Int32} {I : j_M} {r : Int32 × j_M} (h : f_M_rainsIn_2 F x1 x2 I = some r) : j_W p l e R s m args below meth c 3 g b n 0 0 (j_Qi g b n P below args s r) I P 2 [some (.ref (b + 215)), some (.int x1), some (.int x2)] [] := by
  refine j_loop (G := fun (q : Int32 × Int32 × j_M) (r : Int32 × j_M) => j_W p l e R s m args below meth c 3 g b n 0 0 (j_Qi g b n P below args s r) q.2.2 P 2 [some (.ref (b + 215)), some (.int (q.1)), some (.int (q.2.1))] []) ?_ F (x1, x2, I) r h
  intro again hrec0 q r h
  exact k_M_rainsIn_2b hF hn X (fun x1 x2 I r h => hrec0 (x1, x2, I) r h)  h
set_option maxRecDepth 100000 in
set_option maxHeartbeats 4000000 in
theorem k_M_rainsIn {l : Launch} {g : j_G} {b n : Nat} {P : j_R} {F : Nat} (hF : j_Fx 0 260 P) (hn : 260 ≤ n) {x1 : Int32} {I : j_M} {r : Int32 × j_M}  (h : f_M_rainsIn F x1 I = some r) : j_Met l g b n P 0 jy_M_rainsIn jb_M_rainsIn 3 (some .boolean) [.ref (b + 215), .int x1] I r.2 (some (.int r.1)) := by
  unfold f_M_rainsIn at h
  refine j_enter (plainFor_of_name (by decide)) (Nat.le_of_ble_eq_true rfl) [some (.ref (b + 215)), some (.int x1), none] rfl ?_
  intro p e R s m args below meth c X0 hnm hRc hRs
  have X : j_X p R s m args meth c g b 0 jb_M_rainsIn 3 "PleasureGardenModel" (some .boolean) := X0
  clear X0
  refine j_iconst (v := 0) X jd_M_rainsIn_0 (by decide) ?_
  refine j_istore_n (lv' := [some (.ref (b + 215)), some (.int x1), some (.int 0)]) X jd_M_rainsIn_1 rfl (by decide) rfl ?_
  exact k_M_rainsIn_2 hF hn X h
-- PleasureGardenModel.headsAt(I)I
theorem jd_M_headsAt_0 : decode jb_M_headsAt 0 = .ok (.iconst 0, 1) := by decide +kernel
theorem jd_M_headsAt_1 : decode jb_M_headsAt 1 = .ok (.istore_n 2, 1) := by decide +kernel
theorem jd_M_headsAt_2 : decode jb_M_headsAt 2 = .ok (.iconst 0, 1) := by decide +kernel
theorem jd_M_headsAt_3 : decode jb_M_headsAt 3 = .ok (.istore_n 3, 1) := by decide +kernel
theorem jd_M_headsAt_4 : decode jb_M_headsAt 4 = .ok (.iload_n 3, 1) := by decide +kernel
theorem jd_M_headsAt_5 : decode jb_M_headsAt 5 = .ok (.aload_n 0, 1) := by decide +kernel
theorem jd_M_headsAt_6 : decode jb_M_headsAt 6 = .ok (.getfield 180, 3) := by decide +kernel
theorem jd_M_headsAt_9 : decode jb_M_headsAt 9 = .ok (.if_icmp .ge 41, 3) := by decide +kernel
theorem jd_M_headsAt_12 : decode jb_M_headsAt 12 = .ok (.iload_n 2, 1) := by decide +kernel
theorem jd_M_headsAt_13 : decode jb_M_headsAt 13 = .ok (.aload_n 0, 1) := by decide +kernel
theorem jd_M_headsAt_14 : decode jb_M_headsAt 14 = .ok (.getfield 38, 3) := by decide +kernel
theorem jd_M_headsAt_17 : decode jb_M_headsAt 17 = .ok (.iload_n 3, 1) := by decide +kernel
theorem jd_M_headsAt_18 : decode jb_M_headsAt 18 = .ok (.iaload, 1) := by decide +kernel
theorem jd_M_headsAt_19 : decode jb_M_headsAt 19 = .ok (.ifCond .ne 22, 3) := by decide +kernel
theorem jd_M_headsAt_22 : decode jb_M_headsAt 22 = .ok (.aload_n 0, 1) := by decide +kernel
theorem jd_M_headsAt_23 : decode jb_M_headsAt 23 = .ok (.getfield 41, 3) := by decide +kernel
theorem jd_M_headsAt_26 : decode jb_M_headsAt 26 = .ok (.iload_n 3, 1) := by decide +kernel
theorem jd_M_headsAt_27 : decode jb_M_headsAt 27 = .ok (.iaload, 1) := by decide +kernel
theorem jd_M_headsAt_28 : decode jb_M_headsAt 28 = .ok (.iload_n 1, 1) := by decide +kernel
theorem jd_M_headsAt_29 : decode jb_M_headsAt 29 = .ok (.if_icmp .ne 12, 3) := by decide +kernel
theorem jd_M_headsAt_32 : decode jb_M_headsAt 32 = .ok (.aload_n 0, 1) := by decide +kernel
theorem jd_M_headsAt_33 : decode jb_M_headsAt 33 = .ok (.getfield 32, 3) := by decide +kernel
theorem jd_M_headsAt_36 : decode jb_M_headsAt 36 = .ok (.iload_n 3, 1) := by decide +kernel
theorem jd_M_headsAt_37 : decode jb_M_headsAt 37 = .ok (.iaload, 1) := by decide +kernel
theorem jd_M_headsAt_38 : decode jb_M_headsAt 38 = .ok (.goto 4, 3) := by decide +kernel
theorem jd_M_headsAt_41 : decode jb_M_headsAt 41 = .ok (.iconst 0, 1) := by decide +kernel
theorem jd_M_headsAt_42 : decode jb_M_headsAt 42 = .ok (.iadd, 1) := by decide +kernel
theorem jd_M_headsAt_43 : decode jb_M_headsAt 43 = .ok (.istore_n 2, 1) := by decide +kernel
theorem jd_M_headsAt_44 : decode jb_M_headsAt 44 = .ok (.iinc 3 1, 3) := by decide +kernel
theorem jd_M_headsAt_47 : decode jb_M_headsAt 47 = .ok (.goto (-43), 3) := by decide +kernel
theorem jd_M_headsAt_50 : decode jb_M_headsAt 50 = .ok (.iload_n 2, 1) := by decide +kernel
theorem jd_M_headsAt_51 : decode jb_M_headsAt 51 = .ok (.ireturn, 1) := by decide +kernel
def f_M_headsAt_42 (F : Nat) (kb4 : Int32 → Int32 → Int32 → j_M → Option (Int32 × j_M)) (x1 : Int32) (x3 : Int32) (s0 : Int32) (s1 : Int32) (I : j_M) : Option (Int32 × j_M) := j_let (s0 + s1) (fun v1 => j_let (x3 + 1) (fun v2 => kb4 x1 v1 v2 I))
def f_M_headsAt_41 (F : Nat) (kb4 : Int32 → Int32 → Int32 → j_M → Option (Int32 × j_M)) (x1 : Int32) (x3 : Int32) (s0 : Int32) (I : j_M) : Option (Int32 × j_M) := f_M_headsAt_42 F kb4 x1 x3 s0 0 I
def f_M_headsAt_4b (F : Nat) (kb4 : Int32 → Int32 → Int32 → j_M → Option (Int32 × j_M)) (x1 : Int32) (x2 : Int32) (x3 : Int32) (I : j_M) : Option (Int32 × j_M) := (if (I 215 12) ≤ x3 then some (x2, I) else (if j_ok x3 100 = true then (if (I 225 (j_ix x3)) = 0 then (if j_ok x3 100 = true then (if (I 226 (j_ix x3)) = x1 then (if j_ok x3 100 = true then f_M_headsAt_42 F kb4 x1 x3 x2 (I 223 (j_ix x3)) I else none) else f_M_headsAt_41 F kb4 x1 x3 x2 I) else none) else f_M_headsAt_41 F kb4 x1 x3 x2 I) else none))
def f_M_headsAt_4 (F : Nat)  (x1 : Int32) (x2 : Int32) (x3 : Int32) (I : j_M) : Option (Int32 × j_M) := j_it (fun (again : Int32 × Int32 × Int32 × j_M → Option (Int32 × j_M)) (q : Int32 × Int32 × Int32 × j_M) => f_M_headsAt_4b F  (fun x1 x2 x3 I => again (x1, x2, x3, I))  q.1 q.2.1 q.2.2.1 q.2.2.2) F (x1, x2, x3, I)
def f_M_headsAt (F : Nat) (x1 : Int32) (I : j_M) : Option (Int32 × j_M) := f_M_headsAt_4 F x1 0 0 I
set_option maxRecDepth 100000 in
set_option maxHeartbeats 4000000 in
theorem k_M_headsAt_42 {p : Program} {l : Launch} {e : Env} {R : Room} {s : State} {m : MethodId} {args : Array Value} {below : List Frame} {meth : Method} {c : Code} {g : j_G} {b n : Nat} {P : j_R} {F : Nat} (hF : j_Fx 0 260 P) (hn : 260 ≤ n) (X : j_X p R s m args meth c g b 0 jb_M_headsAt 4 "PleasureGardenModel" (some .int)) {kb4 : Int32 → Int32 → Int32 → j_M → Option (Int32 × j_M)} (hkb4 : ∀ (x1 : Int32) (x2 : Int32) (x3 : Int32) (I : j_M) (r : Int32 × j_M), kb4 x1 x2 x3 I = some r → j_W p l e R s m args below meth c 4 g b n 0 0 (j_Qi g b n P below args s r) I P 4 [some (.ref (b + 215)), some (.int x1), some (.int x2), some (.int x3)] []) {x1 : Int32} {x3 : Int32} {s0 : Int32} {s1 : Int32} {I : j_M} {r : Int32 × j_M}  (h : f_M_headsAt_42 F kb4 x1 x3 s0 s1 I = some r) : j_W p l e R s m args below meth c 4 g b n 0 0 (j_Qi g b n P below args s r) I P 42 [some (.ref (b + 215)), some (.int x1), none, some (.int x3)] [.int s1, .int s0] := by
  unfold f_M_headsAt_42 at h
  refine j_iadd X jd_M_headsAt_42 ?_
  refine j_nm h (fun v1 h => ?_)
  refine j_istore_n (lv' := [some (.ref (b + 215)), some (.int x1), some (.int v1), some (.int x3)]) X jd_M_headsAt_43 rfl (by decide) rfl ?_
  obtain ⟨v2, ev2, h⟩ := j_ex h
  refine j_iinc (v := v2) (lv' := [some (.ref (b + 215)), some (.int x1), some (.int v1), some (.int v2)]) X jd_M_headsAt_44 rfl (by rw [ev2]; rfl) (by decide) rfl ?_
  refine j_goto (tgt := 4) X jd_M_headsAt_47 rfl ?_
  exact hkb4 _ _ _ _ _ h
set_option maxRecDepth 100000 in
set_option maxHeartbeats 4000000 in
theorem k_M_headsAt_41 {p : Program} {l : Launch} {e : Env} {R : Room} {s : State} {m : MethodId} {args : Array Value} {below : List Frame} {meth : Method} {c : Code} {g : j_G} {b n : Nat} {P : j_R} {F : Nat} (hF : j_Fx 0 260 P) (hn : 260 ≤ n) (X : j_X p R s m args meth c g b 0 jb_M_headsAt 4 "PleasureGardenModel" (some .int)) {kb4 : Int32 → Int32 → Int32 → j_M → Option (Int32 × j_M)} (hkb4 : ∀ (x1 : Int32) (x2 : Int32) (x3 : Int32) (I : j_M) (r : Int32 × j_M), kb4 x1 x2 x3 I = some r → j_W p l e R s m args below meth c 4 g b n 0 0 (j_Qi g b n P below args s r) I P 4 [some (.ref (b + 215)), some (.int x1), some (.int x2), some (.int x3)] []) {x1 : Int32} {x3 : Int32} {s0 : Int32} {I : j_M} {r : Int32 × j_M}  (h : f_M_headsAt_41 F kb4 x1 x3 s0 I = some r) : j_W p l e R s m args below meth c 4 g b n 0 0 (j_Qi g b n P below args s r) I P 41 [some (.ref (b + 215)), some (.int x1), none, some (.int x3)] [.int s0] := by
  unfold f_M_headsAt_41 at h
  refine j_iconst (v := 0) X jd_M_headsAt_41 (by decide) ?_
  exact k_M_headsAt_42 hF hn X hkb4 h
set_option maxRecDepth 100000 in
set_option maxHeartbeats 4000000 in
theorem k_M_headsAt_4b {p : Program} {l : Launch} {e : Env} {R : Room} {s : State} {m : MethodId} {args : Array Value} {below : List Frame} {meth : Method} {c : Code} {g : j_G} {b n : Nat} {P : j_R} {F : Nat} (hF : j_Fx 0 260 P) (hn : 260 ≤ n) (X : j_X p R s m args meth c g b 0 jb_M_headsAt 4 "PleasureGardenModel" (some .int)) {kb4 : Int32 → Int32 → Int32 → j_M → Option (Int32 × j_M)} (hkb4 : ∀ (x1 : Int32) (x2 : Int32) (x3 : Int32) (I : j_M) (r : Int32 × j_M), kb4 x1 x2 x3 I = some r → j_W p l e R s m args below meth c 4 g b n 0 0 (j_Qi g b n P below args s r) I P 4 [some (.ref (b + 215)), some (.int x1), some (.int x2), some (.int x3)] []) {x1 : Int32} {x2 : Int32} {x3 : Int32} {I : j_M} {r : Int32 × j_M}  (h : f_M_headsAt_4b F kb4 x1 x2 x3 I = some r) : j_W p l e R s m args below meth c 4 g b n 0 0 (j_Qi g b n P below args s r) I P 4 [some (.ref (b + 215)), some (.int x1), some (.int x2), some (.int x3)] [] := by
  unfold f_M_headsAt_4b at h
  refine j_iload_n X jd_M_headsAt_4 rfl rfl ?_
  refine j_aload_n X jd_M_headsAt_5 rfl rfl ?_
  refine j_get X jf_M_180 jk_12_12 js_215 (j_lt rfl hn) jd_M_headsAt_6 ?_
  refine j_icmp_ge (tgt := 50) X jd_M_headsAt_9 rfl h (fun h => ?_) (fun h => ?_)
  · refine j_iload_n X jd_M_headsAt_50 rfl rfl ?_
    exact j_iret X rfl jd_M_headsAt_51 h
  · refine j_iload_n X jd_M_headsAt_12 rfl rfl ?_
    refine j_aload_n X jd_M_headsAt_13 rfl rfl ?_
    refine j_getr X jf_M_38 jk_12_15 js_215 (j_lt rfl hn) (jp_215_15 hF) jd_M_headsAt_14 ?_
    refine j_iload_n X jd_M_headsAt_17 rfl rfl ?_
    refine j_iald X js_225 (j_lt rfl hn) jd_M_headsAt_18 h (fun _ h => ?_)
    refine j_if_ne (tgt := 41) X jd_M_headsAt_19 rfl h (fun h => ?_) (fun h => ?_)
    · refine j_aload_n X jd_M_headsAt_22 rfl rfl ?_
      refine j_getr X jf_M_41 jk_12_16 js_215 (j_lt rfl hn) (jp_215_16 hF) jd_M_headsAt_23 ?_
      refine j_iload_n X jd_M_headsAt_26 rfl rfl ?_
      refine j_iald X js_226 (j_lt rfl hn) jd_M_headsAt_27 h (fun _ h => ?_)
      refine j_iload_n X jd_M_headsAt_28 rfl rfl ?_
      refine j_icmp_ne (tgt := 41) X jd_M_headsAt_29 rfl h (fun h => ?_) (fun h => ?_)
      · refine j_aload_n X jd_M_headsAt_32 rfl rfl ?_
        refine j_getr X jf_M_32 jk_12_13 js_215 (j_lt rfl hn) (jp_215_13 hF) jd_M_headsAt_33 ?_
        refine j_iload_n X jd_M_headsAt_36 rfl rfl ?_
        refine j_iald X js_223 (j_lt rfl hn) jd_M_headsAt_37 h (fun _ h => ?_)
        refine j_goto (tgt := 42) X jd_M_headsAt_38 rfl ?_
        refine j_sub [true, true, false, true] (lv' := [some (.ref (b + 215)), some (.int x1), none, some (.int x3)]) rfl ?_
        exact k_M_headsAt_42 hF hn X hkb4 h
      · refine j_sub [true, true, false, true] (lv' := [some (.ref (b + 215)), some (.int x1), none, some (.int x3)]) rfl ?_
        exact k_M_headsAt_41 hF hn X hkb4 h
    · refine j_sub [true, true, false, true] (lv' := [some (.ref (b + 215)), some (.int x1), none, some (.int x3)]) rfl ?_
      exact k_M_headsAt_41 hF hn X hkb4 h
set_option maxRecDepth 100000 in
set_option maxHeartbeats 4000000 in
theorem k_M_headsAt_4 {p : Program} {l : Launch} {e : Env} {R : Room} {s : State} {m : MethodId} {args : Array Value} {below : List Frame} {meth : Method} {c : Code} {g : j_G} {b n : Nat} {P : j_R} {F : Nat} (hF : j_Fx 0 260 P) (hn : 260 ≤ n) (X : j_X p R s m args meth c g b 0 jb_M_headsAt 4 "PleasureGardenModel" (some .int))  {x1 : Int32} {x2 : Int32} {x3 : Int32} {I : j_M} {r : Int32 × j_M} (h : f_M_headsAt_4 F x1 x2 x3 I = some r) : j_W p l e R s m args below meth c 4 g b n 0 0 (j_Qi g b n P below args s r) I P 4 [some (.ref (b + 215)), some (.int x1), some (.int x2), some (.int x3)] [] := by
  refine j_loop (G := fun (q : Int32 × Int32 × Int32 × j_M) (r : Int32 × j_M) => j_W p l e R s m args below meth c 4 g b n 0 0 (j_Qi g b n P below args s r) q.2.2.2 P 4 [some (.ref (b + 215)), some (.int (q.1)), some (.int (q.2.1)), some (.int (q.2.2.1))] []) ?_ F (x1, x2, x3, I) r h
  intro again hrec0 q r h
  exact k_M_headsAt_4b hF hn X (fun x1 x2 x3 I r h => hrec0 (x1, x2, x3, I) r h)  h
set_option maxRecDepth 100000 in
set_option maxHeartbeats 4000000 in
theorem k_M_headsAt {l : Launch} {g : j_G} {b n : Nat} {P : j_R} {F : Nat} (hF : j_Fx 0 260 P) (hn : 260 ≤ n) {x1 : Int32} {I : j_M} {r : Int32 × j_M}  (h : f_M_headsAt F x1 I = some r) : j_Met l g b n P 0 jy_M_headsAt jb_M_headsAt 4 (some .int) [.ref (b + 215), .int x1] I r.2 (some (.int r.1)) := by
  unfold f_M_headsAt at h
  refine j_enter (plainFor_of_name (by decide)) (Nat.le_of_ble_eq_true rfl) [some (.ref (b + 215)), some (.int x1), none, none] rfl ?_
  intro p e R s m args below meth c X0 hnm hRc hRs
  have X : j_X p R s m args meth c g b 0 jb_M_headsAt 4 "PleasureGardenModel" (some .int) := X0
  clear X0
  refine j_iconst (v := 0) X jd_M_headsAt_0 (by decide) ?_
  refine j_istore_n (lv' := [some (.ref (b + 215)), some (.int x1), some (.int 0), none]) X jd_M_headsAt_1 rfl (by decide) rfl ?_
  refine j_iconst (v := 0) X jd_M_headsAt_2 (by decide) ?_
  refine j_istore_n (lv' := [some (.ref (b + 215)), some (.int x1), some (.int 0), some (.int 0)]) X jd_M_headsAt_3 rfl (by decide) rfl ?_
  exact k_M_headsAt_4 hF hn X h
-- PleasureGardenModel.headsIn()I
theorem jd_M_headsIn_0 : decode jb_M_headsIn 0 = .ok (.iconst 0, 1) := by decide +kernel
theorem jd_M_headsIn_1 : decode jb_M_headsIn 1 = .ok (.istore_n 1, 1) := by decide +kernel
theorem jd_M_headsIn_2 : decode jb_M_headsIn 2 = .ok (.iconst 0, 1) := by decide +kernel
theorem jd_M_headsIn_3 : decode jb_M_headsIn 3 = .ok (.istore_n 2, 1) := by decide +kernel
theorem jd_M_headsIn_4 : decode jb_M_headsIn 4 = .ok (.iload_n 2, 1) := by decide +kernel
theorem jd_M_headsIn_5 : decode jb_M_headsIn 5 = .ok (.aload_n 0, 1) := by decide +kernel
theorem jd_M_headsIn_6 : decode jb_M_headsIn 6 = .ok (.getfield 180, 3) := by decide +kernel
theorem jd_M_headsIn_9 : decode jb_M_headsIn 9 = .ok (.if_icmp .ge 32, 3) := by decide +kernel
theorem jd_M_headsIn_12 : decode jb_M_headsIn 12 = .ok (.iload_n 1, 1) := by decide +kernel
theorem jd_M_headsIn_13 : decode jb_M_headsIn 13 = .ok (.aload_n 0, 1) := by decide +kernel
theorem jd_M_headsIn_14 : decode jb_M_headsIn 14 = .ok (.getfield 38, 3) := by decide +kernel
theorem jd_M_headsIn_17 : decode jb_M_headsIn 17 = .ok (.iload_n 2, 1) := by decide +kernel
theorem jd_M_headsIn_18 : decode jb_M_headsIn 18 = .ok (.iaload, 1) := by decide +kernel
theorem jd_M_headsIn_19 : decode jb_M_headsIn 19 = .ok (.iconst 2, 1) := by decide +kernel
theorem jd_M_headsIn_20 : decode jb_M_headsIn 20 = .ok (.if_icmp .ne 7, 3) := by decide +kernel
theorem jd_M_headsIn_23 : decode jb_M_headsIn 23 = .ok (.iconst 0, 1) := by decide +kernel
theorem jd_M_headsIn_24 : decode jb_M_headsIn 24 = .ok (.goto 9, 3) := by decide +kernel
theorem jd_M_headsIn_27 : decode jb_M_headsIn 27 = .ok (.aload_n 0, 1) := by decide +kernel
theorem jd_M_headsIn_28 : decode jb_M_headsIn 28 = .ok (.getfield 32, 3) := by decide +kernel
theorem jd_M_headsIn_31 : decode jb_M_headsIn 31 = .ok (.iload_n 2, 1) := by decide +kernel
theorem jd_M_headsIn_32 : decode jb_M_headsIn 32 = .ok (.iaload, 1) := by decide +kernel
theorem jd_M_headsIn_33 : decode jb_M_headsIn 33 = .ok (.iadd, 1) := by decide +kernel
theorem jd_M_headsIn_34 : decode jb_M_headsIn 34 = .ok (.istore_n 1, 1) := by decide +kernel
theorem jd_M_headsIn_35 : decode jb_M_headsIn 35 = .ok (.iinc 2 1, 3) := by decide +kernel
theorem jd_M_headsIn_38 : decode jb_M_headsIn 38 = .ok (.goto (-34), 3) := by decide +kernel
theorem jd_M_headsIn_41 : decode jb_M_headsIn 41 = .ok (.iload_n 1, 1) := by decide +kernel
theorem jd_M_headsIn_42 : decode jb_M_headsIn 42 = .ok (.ireturn, 1) := by decide +kernel
def f_M_headsIn_33 (F : Nat) (kb4 : Int32 → Int32 → j_M → Option (Int32 × j_M)) (x2 : Int32) (s0 : Int32) (s1 : Int32) (I : j_M) : Option (Int32 × j_M) := j_let (s0 + s1) (fun v1 => j_let (x2 + 1) (fun v2 => kb4 v1 v2 I))
def f_M_headsIn_4b (F : Nat) (kb4 : Int32 → Int32 → j_M → Option (Int32 × j_M)) (x1 : Int32) (x2 : Int32) (I : j_M) : Option (Int32 × j_M) := (if (I 215 12) ≤ x2 then some (x1, I) else (if j_ok x2 100 = true then (if (I 225 (j_ix x2)) = 2 then f_M_headsIn_33 F kb4 x2 x1 0 I else (if j_ok x2 100 = true then f_M_headsIn_33 F kb4 x2 x1 (I 223 (j_ix x2)) I else none)) else none))
def f_M_headsIn_4 (F : Nat)  (x1 : Int32) (x2 : Int32) (I : j_M) : Option (Int32 × j_M) := j_it (fun (again : Int32 × Int32 × j_M → Option (Int32 × j_M)) (q : Int32 × Int32 × j_M) => f_M_headsIn_4b F  (fun x1 x2 I => again (x1, x2, I))  q.1 q.2.1 q.2.2) F (x1, x2, I)
def f_M_headsIn (F : Nat)  (I : j_M) : Option (Int32 × j_M) := f_M_headsIn_4 F 0 0 I
set_option maxRecDepth 100000 in
set_option maxHeartbeats 4000000 in
theorem k_M_headsIn_33 {p : Program} {l : Launch} {e : Env} {R : Room} {s : State} {m : MethodId} {args : Array Value} {below : List Frame} {meth : Method} {c : Code} {g : j_G} {b n : Nat} {P : j_R} {F : Nat} (hF : j_Fx 0 260 P) (hn : 260 ≤ n) (X : j_X p R s m args meth c g b 0 jb_M_headsIn 3 "PleasureGardenModel" (some .int)) {kb4 : Int32 → Int32 → j_M → Option (Int32 × j_M)} (hkb4 : ∀ (x1 : Int32) (x2 : Int32) (I : j_M) (r : Int32 × j_M), kb4 x1 x2 I = some r → j_W p l e R s m args below meth c 3 g b n 0 0 (j_Qi g b n P below args s r) I P 4 [some (.ref (b + 215)), some (.int x1), some (.int x2)] []) {x2 : Int32} {s0 : Int32} {s1 : Int32} {I : j_M} {r : Int32 × j_M}  (h : f_M_headsIn_33 F kb4 x2 s0 s1 I = some r) : j_W p l e R s m args below meth c 3 g b n 0 0 (j_Qi g b n P below args s r) I P 33 [some (.ref (b + 215)), none, some (.int x2)] [.int s1, .int s0] := by
  unfold f_M_headsIn_33 at h
  refine j_iadd X jd_M_headsIn_33 ?_
  refine j_nm h (fun v1 h => ?_)
  refine j_istore_n (lv' := [some (.ref (b + 215)), some (.int v1), some (.int x2)]) X jd_M_headsIn_34 rfl (by decide) rfl ?_
  obtain ⟨v2, ev2, h⟩ := j_ex h
  refine j_iinc (v := v2) (lv' := [some (.ref (b + 215)), some (.int v1), some (.int v2)]) X jd_M_headsIn_35 rfl (by rw [ev2]; rfl) (by decide) rfl ?_
  refine j_goto (tgt := 4) X jd_M_headsIn_38 rfl ?_
  exact hkb4 _ _ _ _ h
set_option maxRecDepth 100000 in
set_option maxHeartbeats 4000000 in
theorem k_M_headsIn_4b {p : Program} {l : Launch} {e : Env} {R : Room} {s : State} {m : MethodId} {args : Array Value} {below : List Frame} {meth : Method} {c : Code} {g : j_G} {b n : Nat} {P : j_R} {F : Nat} (hF : j_Fx 0 260 P) (hn : 260 ≤ n) (X : j_X p R s m args meth c g b 0 jb_M_headsIn 3 "PleasureGardenModel" (some .int)) {kb4 : Int32 → Int32 → j_M → Option (Int32 × j_M)} (hkb4 : ∀ (x1 : Int32) (x2 : Int32) (I : j_M) (r : Int32 × j_M), kb4 x1 x2 I = some r → j_W p l e R s m args below meth c 3 g b n 0 0 (j_Qi g b n P below args s r) I P 4 [some (.ref (b + 215)), some (.int x1), some (.int x2)] []) {x1 : Int32} {x2 : Int32} {I : j_M} {r : Int32 × j_M}  (h : f_M_headsIn_4b F kb4 x1 x2 I = some r) : j_W p l e R s m args below meth c 3 g b n 0 0 (j_Qi g b n P below args s r) I P 4 [some (.ref (b + 215)), some (.int x1), some (.int x2)] [] := by
  unfold f_M_headsIn_4b at h
  refine j_iload_n X jd_M_headsIn_4 rfl rfl ?_
  refine j_aload_n X jd_M_headsIn_5 rfl rfl ?_
  refine j_get X jf_M_180 jk_12_12 js_215 (j_lt rfl hn) jd_M_headsIn_6 ?_
  refine j_icmp_ge (tgt := 41) X jd_M_headsIn_9 rfl h (fun h => ?_) (fun h => ?_)
  · refine j_iload_n X jd_M_headsIn_41 rfl rfl ?_
    exact j_iret X rfl jd_M_headsIn_42 h
  · refine j_iload_n X jd_M_headsIn_12 rfl rfl ?_
    refine j_aload_n X jd_M_headsIn_13 rfl rfl ?_
    refine j_getr X jf_M_38 jk_12_15 js_215 (j_lt rfl hn) (jp_215_15 hF) jd_M_headsIn_14 ?_
    refine j_iload_n X jd_M_headsIn_17 rfl rfl ?_
    refine j_iald X js_225 (j_lt rfl hn) jd_M_headsIn_18 h (fun _ h => ?_)
    refine j_iconst (v := 2) X jd_M_headsIn_19 (by decide) ?_
    refine j_icmp_ne (tgt := 27) X jd_M_headsIn_20 rfl h (fun h => ?_) (fun h => ?_)
    · refine j_iconst (v := 0) X jd_M_headsIn_23 (by decide) ?_
      refine j_goto (tgt := 33) X jd_M_headsIn_24 rfl ?_
      refine j_sub [true, false, true] (lv' := [some (.ref (b + 215)), none, some (.int x2)]) rfl ?_
      exact k_M_headsIn_33 hF hn X hkb4 h
    · refine j_aload_n X jd_M_headsIn_27 rfl rfl ?_
      refine j_getr X jf_M_32 jk_12_13 js_215 (j_lt rfl hn) (jp_215_13 hF) jd_M_headsIn_28 ?_
      refine j_iload_n X jd_M_headsIn_31 rfl rfl ?_
      refine j_iald X js_223 (j_lt rfl hn) jd_M_headsIn_32 h (fun _ h => ?_)
      refine j_sub [true, false, true] (lv' := [some (.ref (b + 215)), none, some (.int x2)]) rfl ?_
      exact k_M_headsIn_33 hF hn X hkb4 h
set_option maxRecDepth 100000 in
set_option maxHeartbeats 4000000 in
theorem k_M_headsIn_4 {p : Program} {l : Launch} {e : Env} {R : Room} {s : State} {m : MethodId} {args : Array Value} {below : List Frame} {meth : Method} {c : Code} {g : j_G} {b n : Nat} {P : j_R} {F : Nat} (hF : j_Fx 0 260 P) (hn : 260 ≤ n) (X : j_X p R s m args meth c g b 0 jb_M_headsIn 3 "PleasureGardenModel" (some .int))  {x1 : Int32} {x2 : Int32} {I : j_M} {r : Int32 × j_M} (h : f_M_headsIn_4 F x1 x2 I = some r) : j_W p l e R s m args below meth c 3 g b n 0 0 (j_Qi g b n P below args s r) I P 4 [some (.ref (b + 215)), some (.int x1), some (.int x2)] [] := by
  refine j_loop (G := fun (q : Int32 × Int32 × j_M) (r : Int32 × j_M) => j_W p l e R s m args below meth c 3 g b n 0 0 (j_Qi g b n P below args s r) q.2.2 P 4 [some (.ref (b + 215)), some (.int (q.1)), some (.int (q.2.1))] []) ?_ F (x1, x2, I) r h
  intro again hrec0 q r h
  exact k_M_headsIn_4b hF hn X (fun x1 x2 I r h => hrec0 (x1, x2, I) r h)  h
set_option maxRecDepth 100000 in
set_option maxHeartbeats 4000000 in
theorem k_M_headsIn {l : Launch} {g : j_G} {b n : Nat} {P : j_R} {F : Nat} (hF : j_Fx 0 260 P) (hn : 260 ≤ n)  {I : j_M} {r : Int32 × j_M}  (h : f_M_headsIn F I = some r) : j_Met l g b n P 0 jy_M_headsIn jb_M_headsIn 3 (some .int) [.ref (b + 215)] I r.2 (some (.int r.1)) := by
  unfold f_M_headsIn at h
  refine j_enter (plainFor_of_name (by decide)) (Nat.le_of_ble_eq_true rfl) [some (.ref (b + 215)), none, none] rfl ?_
  intro p e R s m args below meth c X0 hnm hRc hRs
  have X : j_X p R s m args meth c g b 0 jb_M_headsIn 3 "PleasureGardenModel" (some .int) := X0
  clear X0
  refine j_iconst (v := 0) X jd_M_headsIn_0 (by decide) ?_
  refine j_istore_n (lv' := [some (.ref (b + 215)), some (.int 0), none]) X jd_M_headsIn_1 rfl (by decide) rfl ?_
  refine j_iconst (v := 0) X jd_M_headsIn_2 (by decide) ?_
  refine j_istore_n (lv' := [some (.ref (b + 215)), some (.int 0), some (.int 0)]) X jd_M_headsIn_3 rfl (by decide) rfl ?_
  exact k_M_headsIn_4 hF hn X h
-- PleasureGardenModel.keep()V
theorem jd_M_keep_0 : decode jb_M_keep 0 = .ok (.iconst 0, 1) := by decide +kernel
theorem jd_M_keep_1 : decode jb_M_keep 1 = .ok (.istore_n 1, 1) := by decide +kernel
theorem jd_M_keep_2 : decode jb_M_keep 2 = .ok (.iload_n 1, 1) := by decide +kernel
theorem jd_M_keep_3 : decode jb_M_keep 3 = .ok (.aload_n 0, 1) := by decide +kernel
theorem jd_M_keep_4 : decode jb_M_keep 4 = .ok (.getfield 180, 3) := by decide +kernel
theorem jd_M_keep_7 : decode jb_M_keep 7 = .ok (.if_icmp .ge 45, 3) := by decide +kernel
theorem jd_M_keep_10 : decode jb_M_keep 10 = .ok (.aload_n 0, 1) := by decide +kernel
theorem jd_M_keep_11 : decode jb_M_keep 11 = .ok (.getfield 63, 3) := by decide +kernel
theorem jd_M_keep_14 : decode jb_M_keep 14 = .ok (.bipush 100, 2) := by decide +kernel
theorem jd_M_keep_16 : decode jb_M_keep 16 = .ok (.aload_n 0, 1) := by decide +kernel
theorem jd_M_keep_17 : decode jb_M_keep 17 = .ok (.getfield 171, 3) := by decide +kernel
theorem jd_M_keep_20 : decode jb_M_keep 20 = .ok (.imul, 1) := by decide +kernel
theorem jd_M_keep_21 : decode jb_M_keep 21 = .ok (.iload_n 1, 1) := by decide +kernel
theorem jd_M_keep_22 : decode jb_M_keep 22 = .ok (.iadd, 1) := by decide +kernel
theorem jd_M_keep_23 : decode jb_M_keep 23 = .ok (.aload_n 0, 1) := by decide +kernel
theorem jd_M_keep_24 : decode jb_M_keep 24 = .ok (.getfield 38, 3) := by decide +kernel
theorem jd_M_keep_27 : decode jb_M_keep 27 = .ok (.iload_n 1, 1) := by decide +kernel
theorem jd_M_keep_28 : decode jb_M_keep 28 = .ok (.iaload, 1) := by decide +kernel
theorem jd_M_keep_29 : decode jb_M_keep 29 = .ok (.ifCond .ne 14, 3) := by decide +kernel
theorem jd_M_keep_32 : decode jb_M_keep 32 = .ok (.aload_n 0, 1) := by decide +kernel
theorem jd_M_keep_33 : decode jb_M_keep 33 = .ok (.getfield 41, 3) := by decide +kernel
theorem jd_M_keep_36 : decode jb_M_keep 36 = .ok (.iload_n 1, 1) := by decide +kernel
theorem jd_M_keep_37 : decode jb_M_keep 37 = .ok (.iaload, 1) := by decide +kernel
theorem jd_M_keep_38 : decode jb_M_keep 38 = .ok (.iconst 1, 1) := by decide +kernel
theorem jd_M_keep_39 : decode jb_M_keep 39 = .ok (.iadd, 1) := by decide +kernel
theorem jd_M_keep_40 : decode jb_M_keep 40 = .ok (.goto 4, 3) := by decide +kernel
theorem jd_M_keep_43 : decode jb_M_keep 43 = .ok (.iconst 0, 1) := by decide +kernel
theorem jd_M_keep_44 : decode jb_M_keep 44 = .ok (.i2b, 1) := by decide +kernel
theorem jd_M_keep_45 : decode jb_M_keep 45 = .ok (.bastore, 1) := by decide +kernel
theorem jd_M_keep_46 : decode jb_M_keep 46 = .ok (.iinc 1 1, 3) := by decide +kernel
theorem jd_M_keep_49 : decode jb_M_keep 49 = .ok (.goto (-47), 3) := by decide +kernel
theorem jd_M_keep_52 : decode jb_M_keep 52 = .ok (.return_, 1) := by decide +kernel
def f_M_keep_44 (F : Nat) (kb2 : Int32 → j_M → Option (Int32 × j_M)) (x1 : Int32) (s1 : Int32) (s2 : Int32) (I : j_M) : Option (Int32 × j_M) := (if j_ok s1 48000 = true then j_let (j_wr I 233 (j_ix s1) (s2.toInt8.toInt32).toInt8.toInt32) (fun I1 => j_let (x1 + 1) (fun v2 => kb2 v2 I1)) else none)
def f_M_keep_2b (F : Nat) (kb2 : Int32 → j_M → Option (Int32 × j_M)) (x1 : Int32) (I : j_M) : Option (Int32 × j_M) := (if (I 215 12) ≤ x1 then some (0, I) else (if j_ok x1 100 = true then (if (I 225 (j_ix x1)) = 0 then (if j_ok x1 100 = true then f_M_keep_44 F kb2 x1 ((100 * (I 215 2)) + x1) ((I 226 (j_ix x1)) + 1) I else none) else f_M_keep_44 F kb2 x1 ((100 * (I 215 2)) + x1) 0 I) else none))
def f_M_keep_2 (F : Nat)  (x1 : Int32) (I : j_M) : Option (Int32 × j_M) := j_it (fun (again : Int32 × j_M → Option (Int32 × j_M)) (q : Int32 × j_M) => f_M_keep_2b F  (fun x1 I => again (x1, I))  q.1 q.2) F (x1, I)
def f_M_keep (F : Nat)  (I : j_M) : Option (Int32 × j_M) := f_M_keep_2 F 0 I
set_option maxRecDepth 100000 in
set_option maxHeartbeats 4000000 in
theorem k_M_keep_44 {p : Program} {l : Launch} {e : Env} {R : Room} {s : State} {m : MethodId} {args : Array Value} {below : List Frame} {meth : Method} {c : Code} {g : j_G} {b n : Nat} {P : j_R} {F : Nat} (hF : j_Fx 0 260 P) (hn : 260 ≤ n) (X : j_X p R s m args meth c g b 0 jb_M_keep 2 "PleasureGardenModel" none) {kb2 : Int32 → j_M → Option (Int32 × j_M)} (hkb2 : ∀ (x1 : Int32) (I : j_M) (r : Int32 × j_M), kb2 x1 I = some r → j_W p l e R s m args below meth c 2 g b n 0 0 (j_Qv g b n P below args s r) I P 2 [some (.ref (b + 215)), some (.int x1)] []) {x1 : Int32} {s1 : Int32} {s2 : Int32} {I : j_M} {r : Int32 × j_M}  (h : f_M_keep_44 F kb2 x1 s1 s2 I = some r) : j_W p l e R s m args below meth c 2 g b n 0 0 (j_Qv g b n P below args s r) I P 44 [some (.ref (b + 215)), some (.int x1)] [.int s2, .int s1, .ref (b + 233)] := by
  unfold f_M_keep_44 at h
  refine j_i2b X jd_M_keep_44 ?_
  refine j_bast X js_233 (j_lt rfl hn) jd_M_keep_45 h (fun h => ?_)
  refine j_mem h (fun I1 h => ?_)
  obtain ⟨v2, ev2, h⟩ := j_ex h
  refine j_iinc (v := v2) (lv' := [some (.ref (b + 215)), some (.int v2)]) X jd_M_keep_46 rfl (by rw [ev2]; rfl) (by decide) rfl ?_
  refine j_goto (tgt := 2) X jd_M_keep_49 rfl ?_
  exact hkb2 _ _ _ h
set_option maxRecDepth 100000 in
set_option maxHeartbeats 4000000 in
theorem k_M_keep_2b {p : Program} {l : Launch} {e : Env} {R : Room} {s : State} {m : MethodId} {args : Array Value} {below : List Frame} {meth : Method} {c : Code} {g : j_G} {b n : Nat} {P : j_R} {F : Nat} (hF : j_Fx 0 260 P) (hn : 260 ≤ n) (X : j_X p R s m args meth c g b 0 jb_M_keep 2 "PleasureGardenModel" none) {kb2 : Int32 → j_M → Option (Int32 × j_M)} (hkb2 : ∀ (x1 : Int32) (I : j_M) (r : Int32 × j_M), kb2 x1 I = some r → j_W p l e R s m args below meth c 2 g b n 0 0 (j_Qv g b n P below args s r) I P 2 [some (.ref (b + 215)), some (.int x1)] []) {x1 : Int32} {I : j_M} {r : Int32 × j_M}  (h : f_M_keep_2b F kb2 x1 I = some r) : j_W p l e R s m args below meth c 2 g b n 0 0 (j_Qv g b n P below args s r) I P 2 [some (.ref (b + 215)), some (.int x1)] [] := by
  unfold f_M_keep_2b at h
  refine j_iload_n X jd_M_keep_2 rfl rfl ?_
  refine j_aload_n X jd_M_keep_3 rfl rfl ?_
  refine j_get X jf_M_180 jk_12_12 js_215 (j_lt rfl hn) jd_M_keep_4 ?_
  refine j_icmp_ge (tgt := 52) X jd_M_keep_7 rfl h (fun h => ?_) (fun h => ?_)
  · exact j_vret X rfl jd_M_keep_52 h
  · refine j_aload_n X jd_M_keep_10 rfl rfl ?_
    refine j_getr X jf_M_63 jk_12_23 js_215 (j_lt rfl hn) (jp_215_23 hF) jd_M_keep_11 ?_
    refine j_bipush (v := 100) X jd_M_keep_14 (by decide) ?_
    refine j_aload_n X jd_M_keep_16 rfl rfl ?_
    refine j_get X jf_M_171 jk_12_2 js_215 (j_lt rfl hn) jd_M_keep_17 ?_
    refine j_imul X jd_M_keep_20 ?_
    refine j_iload_n X jd_M_keep_21 rfl rfl ?_
    refine j_iadd X jd_M_keep_22 ?_
    refine j_aload_n X jd_M_keep_23 rfl rfl ?_
    refine j_getr X jf_M_38 jk_12_15 js_215 (j_lt rfl hn) (jp_215_15 hF) jd_M_keep_24 ?_
    refine j_iload_n X jd_M_keep_27 rfl rfl ?_
    refine j_iald X js_225 (j_lt rfl hn) jd_M_keep_28 h (fun _ h => ?_)
    refine j_if_ne (tgt := 43) X jd_M_keep_29 rfl h (fun h => ?_) (fun h => ?_)
    · refine j_aload_n X jd_M_keep_32 rfl rfl ?_
      refine j_getr X jf_M_41 jk_12_16 js_215 (j_lt rfl hn) (jp_215_16 hF) jd_M_keep_33 ?_
      refine j_iload_n X jd_M_keep_36 rfl rfl ?_
      refine j_iald X js_226 (j_lt rfl hn) jd_M_keep_37 h (fun _ h => ?_)
      refine j_iconst (v := 1) X jd_M_keep_38 (by decide) ?_
      refine j_iadd X jd_M_keep_39 ?_
      refine j_goto (tgt := 44) X jd_M_keep_40 rfl ?_
      exact k_M_keep_44 hF hn X hkb2 h
    · refine j_iconst (v := 0) X jd_M_keep_43 (by decide) ?_
      exact k_M_keep_44 hF hn X hkb2 h
set_option maxRecDepth 100000 in
set_option maxHeartbeats 4000000 in
theorem k_M_keep_2 {p : Program} {l : Launch} {e : Env} {R : Room} {s : State} {m : MethodId} {args : Array Value} {below : List Frame} {meth : Method} {c : Code} {g : j_G} {b n : Nat} {P : j_R} {F : Nat} (hF : j_Fx 0 260 P) (hn : 260 ≤ n) (X : j_X p R s m args meth c g b 0 jb_M_keep 2 "PleasureGardenModel" none)  {x1 : Int32} {I : j_M} {r : Int32 × j_M} (h : f_M_keep_2 F x1 I = some r) : j_W p l e R s m args below meth c 2 g b n 0 0 (j_Qv g b n P below args s r) I P 2 [some (.ref (b + 215)), some (.int x1)] [] := by
  refine j_loop (G := fun (q : Int32 × j_M) (r : Int32 × j_M) => j_W p l e R s m args below meth c 2 g b n 0 0 (j_Qv g b n P below args s r) q.2 P 2 [some (.ref (b + 215)), some (.int (q.1))] []) ?_ F (x1, I) r h
  intro again hrec0 q r h
  exact k_M_keep_2b hF hn X (fun x1 I r h => hrec0 (x1, I) r h)  h
set_option maxRecDepth 100000 in
set_option maxHeartbeats 4000000 in
theorem k_M_keep {l : Launch} {g : j_G} {b n : Nat} {P : j_R} {F : Nat} (hF : j_Fx 0 260 P) (hn : 260 ≤ n)  {I : j_M} {r : Int32 × j_M}  (h : f_M_keep F I = some r) : j_Met l g b n P 0 jy_M_keep jb_M_keep 2 none [.ref (b + 215)] I r.2 none := by
  unfold f_M_keep at h
  refine j_enter (plainFor_of_name (by decide)) (Nat.le_of_ble_eq_true rfl) [some (.ref (b + 215)), none] rfl ?_
  intro p e R s m args below meth c X0 hnm hRc hRs
  have X : j_X p R s m args meth c g b 0 jb_M_keep 2 "PleasureGardenModel" none := X0
  clear X0
  refine j_iconst (v := 0) X jd_M_keep_0 (by decide) ?_
  refine j_istore_n (lv' := [some (.ref (b + 215)), some (.int 0)]) X jd_M_keep_1 rfl (by decide) rfl ?_
  exact k_M_keep_2 hF hn X h
-- PleasureGardenModel.find(II)V
theorem jd_M_find_0 : decode jb_M_find 0 = .ok (.iconst 0, 1) := by decide +kernel
theorem jd_M_find_1 : decode jb_M_find 1 = .ok (.istore_n 3, 1) := by decide +kernel
theorem jd_M_find_2 : decode jb_M_find 2 = .ok (.iload_n 3, 1) := by decide +kernel
theorem jd_M_find_3 : decode jb_M_find 3 = .ok (.aload_n 0, 1) := by decide +kernel
theorem jd_M_find_4 : decode jb_M_find 4 = .ok (.getfield 232, 3) := by decide +kernel
theorem jd_M_find_7 : decode jb_M_find 7 = .ok (.if_icmp .ge 31, 3) := by decide +kernel
theorem jd_M_find_10 : decode jb_M_find 10 = .ok (.aload_n 0, 1) := by decide +kernel
theorem jd_M_find_11 : decode jb_M_find 11 = .ok (.getfield 79, 3) := by decide +kernel
theorem jd_M_find_14 : decode jb_M_find 14 = .ok (.iload_n 3, 1) := by decide +kernel
theorem jd_M_find_15 : decode jb_M_find 15 = .ok (.iload_n 3, 1) := by decide +kernel
theorem jd_M_find_16 : decode jb_M_find 16 = .ok (.iload_n 1, 1) := by decide +kernel
theorem jd_M_find_17 : decode jb_M_find 17 = .ok (.if_icmp .eq 8, 3) := by decide +kernel
theorem jd_M_find_20 : decode jb_M_find 20 = .ok (.iload_n 3, 1) := by decide +kernel
theorem jd_M_find_21 : decode jb_M_find 21 = .ok (.iload_n 2, 1) := by decide +kernel
theorem jd_M_find_22 : decode jb_M_find 22 = .ok (.if_icmp .ne 7, 3) := by decide +kernel
theorem jd_M_find_25 : decode jb_M_find 25 = .ok (.iconst 0, 1) := by decide +kernel
theorem jd_M_find_26 : decode jb_M_find 26 = .ok (.goto 5, 3) := by decide +kernel
theorem jd_M_find_29 : decode jb_M_find 29 = .ok (.ldc 166, 2) := by decide +kernel
theorem jd_M_find_31 : decode jb_M_find 31 = .ok (.iastore, 1) := by decide +kernel
theorem jd_M_find_32 : decode jb_M_find 32 = .ok (.iinc 3 1, 3) := by decide +kernel
theorem jd_M_find_35 : decode jb_M_find 35 = .ok (.goto (-33), 3) := by decide +kernel
theorem jd_M_find_38 : decode jb_M_find 38 = .ok (.iconst 1, 1) := by decide +kernel
theorem jd_M_find_39 : decode jb_M_find 39 = .ok (.istore_n 3, 1) := by decide +kernel
theorem jd_M_find_40 : decode jb_M_find 40 = .ok (.iload_n 3, 1) := by decide +kernel
theorem jd_M_find_41 : decode jb_M_find 41 = .ok (.ifCond .eq 142, 3) := by decide +kernel
theorem jd_M_find_44 : decode jb_M_find 44 = .ok (.iconst 0, 1) := by decide +kernel
theorem jd_M_find_45 : decode jb_M_find 45 = .ok (.istore_n 3, 1) := by decide +kernel
theorem jd_M_find_46 : decode jb_M_find 46 = .ok (.iconst 0, 1) := by decide +kernel
theorem jd_M_find_47 : decode jb_M_find 47 = .ok (.istore 4, 2) := by decide +kernel
theorem jd_M_find_49 : decode jb_M_find 49 = .ok (.iload 4, 2) := by decide +kernel
theorem jd_M_find_51 : decode jb_M_find 51 = .ok (.aload_n 0, 1) := by decide +kernel
theorem jd_M_find_52 : decode jb_M_find 52 = .ok (.getfield 238, 3) := by decide +kernel
theorem jd_M_find_55 : decode jb_M_find 55 = .ok (.if_icmp .ge 125, 3) := by decide +kernel
theorem jd_M_find_58 : decode jb_M_find 58 = .ok (.aload_n 0, 1) := by decide +kernel
theorem jd_M_find_59 : decode jb_M_find 59 = .ok (.getfield 70, 3) := by decide +kernel
theorem jd_M_find_62 : decode jb_M_find 62 = .ok (.iload 4, 2) := by decide +kernel
theorem jd_M_find_64 : decode jb_M_find 64 = .ok (.iaload, 1) := by decide +kernel
theorem jd_M_find_65 : decode jb_M_find 65 = .ok (.istore 5, 2) := by decide +kernel
theorem jd_M_find_67 : decode jb_M_find 67 = .ok (.aload_n 0, 1) := by decide +kernel
theorem jd_M_find_68 : decode jb_M_find 68 = .ok (.getfield 73, 3) := by decide +kernel
theorem jd_M_find_71 : decode jb_M_find 71 = .ok (.iload 4, 2) := by decide +kernel
theorem jd_M_find_73 : decode jb_M_find 73 = .ok (.iaload, 1) := by decide +kernel
theorem jd_M_find_74 : decode jb_M_find 74 = .ok (.istore 6, 2) := by decide +kernel
theorem jd_M_find_76 : decode jb_M_find 76 = .ok (.aload_n 0, 1) := by decide +kernel
theorem jd_M_find_77 : decode jb_M_find 77 = .ok (.getfield 79, 3) := by decide +kernel
theorem jd_M_find_80 : decode jb_M_find 80 = .ok (.iload 5, 2) := by decide +kernel
theorem jd_M_find_82 : decode jb_M_find 82 = .ok (.iaload, 1) := by decide +kernel
theorem jd_M_find_83 : decode jb_M_find 83 = .ok (.aload_n 0, 1) := by decide +kernel
theorem jd_M_find_84 : decode jb_M_find 84 = .ok (.getfield 76, 3) := by decide +kernel
theorem jd_M_find_87 : decode jb_M_find 87 = .ok (.iload 4, 2) := by decide +kernel
theorem jd_M_find_89 : decode jb_M_find 89 = .ok (.iaload, 1) := by decide +kernel
theorem jd_M_find_90 : decode jb_M_find 90 = .ok (.iadd, 1) := by decide +kernel
theorem jd_M_find_91 : decode jb_M_find 91 = .ok (.aload_n 0, 1) := by decide +kernel
theorem jd_M_find_92 : decode jb_M_find 92 = .ok (.getfield 79, 3) := by decide +kernel
theorem jd_M_find_95 : decode jb_M_find 95 = .ok (.iload 6, 2) := by decide +kernel
theorem jd_M_find_97 : decode jb_M_find 97 = .ok (.iaload, 1) := by decide +kernel
theorem jd_M_find_98 : decode jb_M_find 98 = .ok (.if_icmp .ge 27, 3) := by decide +kernel
theorem jd_M_find_101 : decode jb_M_find 101 = .ok (.aload_n 0, 1) := by decide +kernel
theorem jd_M_find_102 : decode jb_M_find 102 = .ok (.getfield 79, 3) := by decide +kernel
theorem jd_M_find_105 : decode jb_M_find 105 = .ok (.iload 6, 2) := by decide +kernel
theorem jd_M_find_107 : decode jb_M_find 107 = .ok (.aload_n 0, 1) := by decide +kernel
theorem jd_M_find_108 : decode jb_M_find 108 = .ok (.getfield 79, 3) := by decide +kernel
theorem jd_M_find_111 : decode jb_M_find 111 = .ok (.iload 5, 2) := by decide +kernel
theorem jd_M_find_113 : decode jb_M_find 113 = .ok (.iaload, 1) := by decide +kernel
theorem jd_M_find_114 : decode jb_M_find 114 = .ok (.aload_n 0, 1) := by decide +kernel
theorem jd_M_find_115 : decode jb_M_find 115 = .ok (.getfield 76, 3) := by decide +kernel
theorem jd_M_find_118 : decode jb_M_find 118 = .ok (.iload 4, 2) := by decide +kernel
theorem jd_M_find_120 : decode jb_M_find 120 = .ok (.iaload, 1) := by decide +kernel
theorem jd_M_find_121 : decode jb_M_find 121 = .ok (.iadd, 1) := by decide +kernel
theorem jd_M_find_122 : decode jb_M_find 122 = .ok (.iastore, 1) := by decide +kernel
theorem jd_M_find_123 : decode jb_M_find 123 = .ok (.iconst 1, 1) := by decide +kernel
theorem jd_M_find_124 : decode jb_M_find 124 = .ok (.istore_n 3, 1) := by decide +kernel
theorem jd_M_find_125 : decode jb_M_find 125 = .ok (.aload_n 0, 1) := by decide +kernel
theorem jd_M_find_126 : decode jb_M_find 126 = .ok (.getfield 79, 3) := by decide +kernel
theorem jd_M_find_129 : decode jb_M_find 129 = .ok (.iload 6, 2) := by decide +kernel
theorem jd_M_find_131 : decode jb_M_find 131 = .ok (.iaload, 1) := by decide +kernel
theorem jd_M_find_132 : decode jb_M_find 132 = .ok (.aload_n 0, 1) := by decide +kernel
theorem jd_M_find_133 : decode jb_M_find 133 = .ok (.getfield 76, 3) := by decide +kernel
theorem jd_M_find_136 : decode jb_M_find 136 = .ok (.iload 4, 2) := by decide +kernel
theorem jd_M_find_138 : decode jb_M_find 138 = .ok (.iaload, 1) := by decide +kernel
theorem jd_M_find_139 : decode jb_M_find 139 = .ok (.iadd, 1) := by decide +kernel
theorem jd_M_find_140 : decode jb_M_find 140 = .ok (.aload_n 0, 1) := by decide +kernel
theorem jd_M_find_141 : decode jb_M_find 141 = .ok (.getfield 79, 3) := by decide +kernel
theorem jd_M_find_144 : decode jb_M_find 144 = .ok (.iload 5, 2) := by decide +kernel
theorem jd_M_find_146 : decode jb_M_find 146 = .ok (.iaload, 1) := by decide +kernel
theorem jd_M_find_147 : decode jb_M_find 147 = .ok (.if_icmp .ge 27, 3) := by decide +kernel
theorem jd_M_find_150 : decode jb_M_find 150 = .ok (.aload_n 0, 1) := by decide +kernel
theorem jd_M_find_151 : decode jb_M_find 151 = .ok (.getfield 79, 3) := by decide +kernel
theorem jd_M_find_154 : decode jb_M_find 154 = .ok (.iload 5, 2) := by decide +kernel
theorem jd_M_find_156 : decode jb_M_find 156 = .ok (.aload_n 0, 1) := by decide +kernel
theorem jd_M_find_157 : decode jb_M_find 157 = .ok (.getfield 79, 3) := by decide +kernel
theorem jd_M_find_160 : decode jb_M_find 160 = .ok (.iload 6, 2) := by decide +kernel
theorem jd_M_find_162 : decode jb_M_find 162 = .ok (.iaload, 1) := by decide +kernel
theorem jd_M_find_163 : decode jb_M_find 163 = .ok (.aload_n 0, 1) := by decide +kernel
theorem jd_M_find_164 : decode jb_M_find 164 = .ok (.getfield 76, 3) := by decide +kernel
theorem jd_M_find_167 : decode jb_M_find 167 = .ok (.iload 4, 2) := by decide +kernel
theorem jd_M_find_169 : decode jb_M_find 169 = .ok (.iaload, 1) := by decide +kernel
theorem jd_M_find_170 : decode jb_M_find 170 = .ok (.iadd, 1) := by decide +kernel
theorem jd_M_find_171 : decode jb_M_find 171 = .ok (.iastore, 1) := by decide +kernel
theorem jd_M_find_172 : decode jb_M_find 172 = .ok (.iconst 1, 1) := by decide +kernel
theorem jd_M_find_173 : decode jb_M_find 173 = .ok (.istore_n 3, 1) := by decide +kernel
theorem jd_M_find_174 : decode jb_M_find 174 = .ok (.iinc 4 1, 3) := by decide +kernel
theorem jd_M_find_177 : decode jb_M_find 177 = .ok (.goto (-128), 3) := by decide +kernel
theorem jd_M_find_180 : decode jb_M_find 180 = .ok (.goto (-140), 3) := by decide +kernel
theorem jd_M_find_183 : decode jb_M_find 183 = .ok (.aload_n 0, 1) := by decide +kernel
theorem jd_M_find_184 : decode jb_M_find 184 = .ok (.iconst 0, 1) := by decide +kernel
theorem jd_M_find_185 : decode jb_M_find 185 = .ok (.putfield 241, 3) := by decide +kernel
theorem jd_M_find_188 : decode jb_M_find 188 = .ok (.aload_n 0, 1) := by decide +kernel
theorem jd_M_find_189 : decode jb_M_find 189 = .ok (.iconst 0, 1) := by decide +kernel
theorem jd_M_find_190 : decode jb_M_find 190 = .ok (.putfield 244, 3) := by decide +kernel
theorem jd_M_find_193 : decode jb_M_find 193 = .ok (.iconst 0, 1) := by decide +kernel
theorem jd_M_find_194 : decode jb_M_find 194 = .ok (.istore 4, 2) := by decide +kernel
theorem jd_M_find_196 : decode jb_M_find 196 = .ok (.iload 4, 2) := by decide +kernel
theorem jd_M_find_198 : decode jb_M_find 198 = .ok (.aload_n 0, 1) := by decide +kernel
theorem jd_M_find_199 : decode jb_M_find 199 = .ok (.getfield 232, 3) := by decide +kernel
theorem jd_M_find_202 : decode jb_M_find 202 = .ok (.if_icmp .ge 78, 3) := by decide +kernel
theorem jd_M_find_205 : decode jb_M_find 205 = .ok (.aload_n 0, 1) := by decide +kernel
theorem jd_M_find_206 : decode jb_M_find 206 = .ok (.getfield 79, 3) := by decide +kernel
theorem jd_M_find_209 : decode jb_M_find 209 = .ok (.iload 4, 2) := by decide +kernel
theorem jd_M_find_211 : decode jb_M_find 211 = .ok (.iaload, 1) := by decide +kernel
theorem jd_M_find_212 : decode jb_M_find 212 = .ok (.ldc 166, 2) := by decide +kernel
theorem jd_M_find_214 : decode jb_M_find 214 = .ok (.if_icmp .lt 16, 3) := by decide +kernel
theorem jd_M_find_217 : decode jb_M_find 217 = .ok (.aload_n 0, 1) := by decide +kernel
theorem jd_M_find_218 : decode jb_M_find 218 = .ok (.dup, 1) := by decide +kernel
theorem jd_M_find_219 : decode jb_M_find 219 = .ok (.getfield 244, 3) := by decide +kernel
theorem jd_M_find_222 : decode jb_M_find 222 = .ok (.iconst 1, 1) := by decide +kernel
theorem jd_M_find_223 : decode jb_M_find 223 = .ok (.iadd, 1) := by decide +kernel
theorem jd_M_find_224 : decode jb_M_find 224 = .ok (.putfield 244, 3) := by decide +kernel
theorem jd_M_find_227 : decode jb_M_find 227 = .ok (.goto 47, 3) := by decide +kernel
theorem jd_M_find_230 : decode jb_M_find 230 = .ok (.aload_n 0, 1) := by decide +kernel
theorem jd_M_find_231 : decode jb_M_find 231 = .ok (.aload_n 0, 1) := by decide +kernel
theorem jd_M_find_232 : decode jb_M_find 232 = .ok (.getfield 79, 3) := by decide +kernel
theorem jd_M_find_235 : decode jb_M_find 235 = .ok (.iload 4, 2) := by decide +kernel
theorem jd_M_find_237 : decode jb_M_find 237 = .ok (.iaload, 1) := by decide +kernel
theorem jd_M_find_238 : decode jb_M_find 238 = .ok (.bipush 9, 2) := by decide +kernel
theorem jd_M_find_240 : decode jb_M_find 240 = .ok (.iadd, 1) := by decide +kernel
theorem jd_M_find_241 : decode jb_M_find 241 = .ok (.bipush 10, 2) := by decide +kernel
theorem jd_M_find_243 : decode jb_M_find 243 = .ok (.idiv, 1) := by decide +kernel
theorem jd_M_find_244 : decode jb_M_find 244 = .ok (.aload_n 0, 1) := by decide +kernel
theorem jd_M_find_245 : decode jb_M_find 245 = .ok (.getfield 241, 3) := by decide +kernel
theorem jd_M_find_248 : decode jb_M_find 248 = .ok (.if_icmp .le 19, 3) := by decide +kernel
theorem jd_M_find_251 : decode jb_M_find 251 = .ok (.aload_n 0, 1) := by decide +kernel
theorem jd_M_find_252 : decode jb_M_find 252 = .ok (.getfield 79, 3) := by decide +kernel
theorem jd_M_find_255 : decode jb_M_find 255 = .ok (.iload 4, 2) := by decide +kernel
theorem jd_M_find_257 : decode jb_M_find 257 = .ok (.iaload, 1) := by decide +kernel
theorem jd_M_find_258 : decode jb_M_find 258 = .ok (.bipush 9, 2) := by decide +kernel
theorem jd_M_find_260 : decode jb_M_find 260 = .ok (.iadd, 1) := by decide +kernel
theorem jd_M_find_261 : decode jb_M_find 261 = .ok (.bipush 10, 2) := by decide +kernel
theorem jd_M_find_263 : decode jb_M_find 263 = .ok (.idiv, 1) := by decide +kernel
theorem jd_M_find_264 : decode jb_M_find 264 = .ok (.goto 7, 3) := by decide +kernel
theorem jd_M_find_267 : decode jb_M_find 267 = .ok (.aload_n 0, 1) := by decide +kernel
theorem jd_M_find_268 : decode jb_M_find 268 = .ok (.getfield 241, 3) := by decide +kernel
theorem jd_M_find_271 : decode jb_M_find 271 = .ok (.putfield 241, 3) := by decide +kernel
theorem jd_M_find_274 : decode jb_M_find 274 = .ok (.iinc 4 1, 3) := by decide +kernel
theorem jd_M_find_277 : decode jb_M_find 277 = .ok (.goto (-81), 3) := by decide +kernel
theorem jd_M_find_280 : decode jb_M_find 280 = .ok (.return_, 1) := by decide +kernel
def f_M_find_274 (F : Nat) (kb196 : Int32 → j_M → Option (Int32 × j_M)) (x4 : Int32) (I : j_M) : Option (Int32 × j_M) := j_let (x4 + 1) (fun v1 => kb196 v1 I)
def f_M_find_271 (F : Nat) (kb196 : Int32 → j_M → Option (Int32 × j_M)) (x4 : Int32) (s1 : Int32) (I : j_M) : Option (Int32 × j_M) := j_let (j_wr I 215 38 s1) (fun I2 => f_M_find_274 F kb196 x4 I2)
def f_M_find_196b (F : Nat) (kb196 : Int32 → j_M → Option (Int32 × j_M)) (x4 : Int32) (I : j_M) : Option (Int32 × j_M) := (if (I 215 28) ≤ x4 then some (0, I) else (if j_ok x4 40 = true then (if (I 238 (j_ix x4)) < 1000000 then (if j_ok x4 40 = true then (if 10 = 0 then none else (if (((I 238 (j_ix x4)) + 9) / 10) ≤ (I 215 38) then f_M_find_271 F kb196 x4 (I 215 38) I else (if j_ok x4 40 = true then (if 10 = 0 then none else f_M_find_271 F kb196 x4 (((I 238 (j_ix x4)) + 9) / 10) I) else none))) else none) else j_let (j_wr I 215 39 ((I 215 39) + 1)) (fun I3 => f_M_find_274 F kb196 x4 I3)) else none))
def f_M_find_196 (F : Nat)  (x4 : Int32) (I : j_M) : Option (Int32 × j_M) := j_it (fun (again : Int32 × j_M → Option (Int32 × j_M)) (q : Int32 × j_M) => f_M_find_196b F  (fun x4 I => again (x4, I))  q.1 q.2) F (x4, I)
def f_M_find_174 (F : Nat) (kb49 : Int32 → Int32 → j_M → Option (Int32 × j_M)) (x3 : Int32) (x4 : Int32) (I : j_M) : Option (Int32 × j_M) := j_let (x4 + 1) (fun v4 => kb49 x3 v4 I)
def f_M_find_125 (F : Nat) (kb49 : Int32 → Int32 → j_M → Option (Int32 × j_M)) (x3 : Int32) (x4 : Int32) (x5 : Int32) (x6 : Int32) (I : j_M) : Option (Int32 × j_M) := (if j_ok x6 40 = true then (if j_ok x4 80 = true then (if j_ok x5 40 = true then (if (I 238 (j_ix x5)) ≤ ((I 238 (j_ix x6)) + (I 237 (j_ix x4))) then f_M_find_174 F kb49 x3 x4 I else (if j_ok x6 40 = true then (if j_ok x4 80 = true then (if j_ok x5 40 = true then j_let (j_wr I 238 (j_ix x5) ((I 238 (j_ix x6)) + (I 237 (j_ix x4)))) (fun I5 => f_M_find_174 F kb49 1 x4 I5) else none) else none) else none)) else none) else none) else none)
def f_M_find_49b (F : Nat) (kb49 : Int32 → Int32 → j_M → Option (Int32 × j_M)) (kb40 : Int32 → j_M → Option (Int32 × j_M)) (x3 : Int32) (x4 : Int32) (I : j_M) : Option (Int32 × j_M) := (if (I 215 30) ≤ x4 then kb40 x3 I else (if j_ok x4 80 = true then j_let (I 235 (j_ix x4)) (fun v6 => (if j_ok x4 80 = true then j_let (I 236 (j_ix x4)) (fun v7 => (if j_ok v6 40 = true then (if j_ok x4 80 = true then (if j_ok v7 40 = true then (if (I 238 (j_ix v7)) ≤ ((I 238 (j_ix v6)) + (I 237 (j_ix x4))) then f_M_find_125 F kb49 x3 x4 v6 v7 I else (if j_ok v6 40 = true then (if j_ok x4 80 = true then (if j_ok v7 40 = true then j_let (j_wr I 238 (j_ix v7) ((I 238 (j_ix v6)) + (I 237 (j_ix x4)))) (fun I8 => f_M_find_125 F kb49 1 x4 v6 v7 I8) else none) else none) else none)) else none) else none) else none)) else none)) else none))
def f_M_find_49 (F : Nat) (kb40 : Int32 → j_M → Option (Int32 × j_M)) (x3 : Int32) (x4 : Int32) (I : j_M) : Option (Int32 × j_M) := j_it (fun (again : Int32 × Int32 × j_M → Option (Int32 × j_M)) (q : Int32 × Int32 × j_M) => f_M_find_49b F  (fun x3 x4 I => again (x3, x4, I)) kb40 q.1 q.2.1 q.2.2) F (x3, x4, I)
def f_M_find_40b (F : Nat) (kb40 : Int32 → j_M → Option (Int32 × j_M)) (x3 : Int32) (I : j_M) : Option (Int32 × j_M) := (if x3 = 0 then j_let (j_wr I 215 38 0) (fun I9 => j_let (j_wr I9 215 39 0) (fun I10 => f_M_find_196 F 0 I10)) else f_M_find_49 F kb40 0 0 I)
def f_M_find_40 (F : Nat)  (x3 : Int32) (I : j_M) : Option (Int32 × j_M) := j_it (fun (again : Int32 × j_M → Option (Int32 × j_M)) (q : Int32 × j_M) => f_M_find_40b F  (fun x3 I => again (x3, I))  q.1 q.2) F (x3, I)
def f_M_find_31 (F : Nat) (kb2 : Int32 → Int32 → Int32 → j_M → Option (Int32 × j_M)) (x1 : Int32) (x2 : Int32) (x3 : Int32) (s1 : Int32) (s2 : Int32) (I : j_M) : Option (Int32 × j_M) := (if j_ok s1 40 = true then j_let (j_wr I 238 (j_ix s1) s2) (fun I11 => j_let (x3 + 1) (fun v12 => kb2 x1 x2 v12 I11)) else none)
def f_M_find_25 (F : Nat) (kb2 : Int32 → Int32 → Int32 → j_M → Option (Int32 × j_M)) (x1 : Int32) (x2 : Int32) (x3 : Int32) (s1 : Int32) (I : j_M) : Option (Int32 × j_M) := f_M_find_31 F kb2 x1 x2 x3 s1 0 I
def f_M_find_2b (F : Nat) (kb2 : Int32 → Int32 → Int32 → j_M → Option (Int32 × j_M)) (x1 : Int32) (x2 : Int32) (x3 : Int32) (I : j_M) : Option (Int32 × j_M) := (if (I 215 28) ≤ x3 then f_M_find_40 F 1 I else (if x3 = x1 then f_M_find_25 F kb2 x1 x2 x3 x3 I else (if x3 = x2 then f_M_find_25 F kb2 x1 x2 x3 x3 I else f_M_find_31 F kb2 x1 x2 x3 x3 1000000 I)))
def f_M_find_2 (F : Nat)  (x1 : Int32) (x2 : Int32) (x3 : Int32) (I : j_M) : Option (Int32 × j_M) := j_it (fun (again : Int32 × Int32 × Int32 × j_M → Option (Int32 × j_M)) (q : Int32 × Int32 × Int32 × j_M) => f_M_find_2b F  (fun x1 x2 x3 I => again (x1, x2, x3, I))  q.1 q.2.1 q.2.2.1 q.2.2.2) F (x1, x2, x3, I)
def f_M_find (F : Nat) (x1 : Int32) (x2 : Int32) (I : j_M) : Option (Int32 × j_M) := f_M_find_2 F x1 x2 0 I
set_option maxRecDepth 100000 in
set_option maxHeartbeats 4000000 in
theorem k_M_find_274 {p : Program} {l : Launch} {e : Env} {R : Room} {s : State} {m : MethodId} {args : Array Value} {below : List Frame} {meth : Method} {c : Code} {g : j_G} {b n : Nat} {P : j_R} {F : Nat} (hF : j_Fx 0 260 P) (hn : 260 ≤ n) (X : j_X p R s m args meth c g b 0 jb_M_find 7 "PleasureGardenModel" none) {kb196 : Int32 → j_M → Option (Int32 × j_M)} (hkb196 : ∀ (x4 : Int32) (I : j_M) (r : Int32 × j_M), kb196 x4 I = some r → j_W p l e R s m args below meth c 7 g b n 0 0 (j_Qv g b n P below args s r) I P 196 [some (.ref (b + 215)), none, none, none, some (.int x4), none, none] []) {x4 : Int32} {I : j_M} {r : Int32 × j_M}  (h : f_M_find_274 F kb196 x4 I = some r) : j_W p l e R s m args below meth c 7 g b n 0 0 (j_Qv g b n P below args s r) I P 274 [some (.ref (b + 215)), none, none, none, some (.int x4), none, none] [] := by
  unfold f_M_find_274 at h
  obtain ⟨v1, ev1, h⟩ := j_ex h
  refine j_iinc (v := v1) (lv' := [some (.ref (b + 215)), none, none, none, some (.int v1), none, none]) X jd_M_find_274 rfl (by rw [ev1]; rfl) (by decide) rfl ?_
  refine j_goto (tgt := 196) X jd_M_find_277 rfl ?_
  exact hkb196 _ _ _ h
set_option maxRecDepth 100000 in
set_option maxHeartbeats 4000000 in
theorem k_M_find_271 {p : Program} {l : Launch} {e : Env} {R : Room} {s : State} {m : MethodId} {args : Array Value} {below : List Frame} {meth : Method} {c : Code} {g : j_G} {b n : Nat} {P : j_R} {F : Nat} (hF : j_Fx 0 260 P) (hn : 260 ≤ n) (X : j_X p R s m args meth c g b 0 jb_M_find 7 "PleasureGardenModel" none) {kb196 : Int32 → j_M → Option (Int32 × j_M)} (hkb196 : ∀ (x4 : Int32) (I : j_M) (r : Int32 × j_M), kb196 x4 I = some r → j_W p l e R s m args below meth c 7 g b n 0 0 (j_Qv g b n P below args s r) I P 196 [some (.ref (b + 215)), none, none, none, some (.int x4), none, none] []) {x4 : Int32} {s1 : Int32} {I : j_M} {r : Int32 × j_M}  (h : f_M_find_271 F kb196 x4 s1 I = some r) : j_W p l e R s m args below meth c 7 g b n 0 0 (j_Qv g b n P below args s r) I P 271 [some (.ref (b + 215)), none, none, none, some (.int x4), none, none] [.int s1, .ref (b + 215)] := by
  unfold f_M_find_271 at h
  refine j_puti X jt_M jto_M jn_M jf_M_241 jk_12_38 js_215 (j_lt rfl hn) (Or.inl rfl) rfl jd_M_find_271 ?_
  refine j_mem h (fun I2 h => ?_)
  exact k_M_find_274 hF hn X hkb196 h
set_option maxRecDepth 100000 in
set_option maxHeartbeats 4000000 in
theorem k_M_find_196b {p : Program} {l : Launch} {e : Env} {R : Room} {s : State} {m : MethodId} {args : Array Value} {below : List Frame} {meth : Method} {c : Code} {g : j_G} {b n : Nat} {P : j_R} {F : Nat} (hF : j_Fx 0 260 P) (hn : 260 ≤ n) (X : j_X p R s m args meth c g b 0 jb_M_find 7 "PleasureGardenModel" none) {kb196 : Int32 → j_M → Option (Int32 × j_M)} (hkb196 : ∀ (x4 : Int32) (I : j_M) (r : Int32 × j_M), kb196 x4 I = some r → j_W p l e R s m args below meth c 7 g b n 0 0 (j_Qv g b n P below args s r) I P 196 [some (.ref (b + 215)), none, none, none, some (.int x4), none, none] []) {x4 : Int32} {I : j_M} {r : Int32 × j_M}  (h : f_M_find_196b F kb196 x4 I = some r) : j_W p l e R s m args below meth c 7 g b n 0 0 (j_Qv g b n P below args s r) I P 196 [some (.ref (b + 215)), none, none, none, some (.int x4), none, none] [] := by
  unfold f_M_find_196b at h
  refine j_iload X jd_M_find_196 rfl ?_
  refine j_aload_n X jd_M_find_198 rfl rfl ?_
  refine j_get X jf_M_232 jk_12_28 js_215 (j_lt rfl hn) jd_M_find_199 ?_
  refine j_icmp_ge (tgt := 280) X jd_M_find_202 rfl h (fun h => ?_) (fun h => ?_)
  · exact j_vret X rfl jd_M_find_280 h
  · refine j_aload_n X jd_M_find_205 rfl rfl ?_
    refine j_getr X jf_M_79 jk_12_34 js_215 (j_lt rfl hn) (jp_215_34 hF) jd_M_find_206 ?_
    refine j_iload X jd_M_find_209 rfl ?_
    refine j_iald X js_238 (j_lt rfl hn) jd_M_find_211 h (fun _ h => ?_)
    refine j_ldc (v := 1000000) X jlc_M_166 jd_M_find_212 ?_
    refine j_icmp_lt (tgt := 230) X jd_M_find_214 rfl h (fun h => ?_) (fun h => ?_)
    · refine j_aload_n X jd_M_find_230 rfl rfl ?_
      refine j_aload_n X jd_M_find_231 rfl rfl ?_
      refine j_getr X jf_M_79 jk_12_34 js_215 (j_lt rfl hn) (jp_215_34 hF) jd_M_find_232 ?_
      refine j_iload X jd_M_find_235 rfl ?_
      refine j_iald X js_238 (j_lt rfl hn) jd_M_find_237 h (fun _ h => ?_)
      refine j_bipush (v := 9) X jd_M_find_238 (by decide) ?_
      refine j_iadd X jd_M_find_240 ?_
      refine j_bipush (v := 10) X jd_M_find_241 (by decide) ?_
      refine j_idiv X jd_M_find_243 h (fun h => ?_)
      refine j_aload_n X jd_M_find_244 rfl rfl ?_
      refine j_get X jf_M_241 jk_12_38 js_215 (j_lt rfl hn) jd_M_find_245 ?_
      refine j_icmp_le (tgt := 267) X jd_M_find_248 rfl h (fun h => ?_) (fun h => ?_)
      · refine j_aload_n X jd_M_find_267 rfl rfl ?_
        refine j_get X jf_M_241 jk_12_38 js_215 (j_lt rfl hn) jd_M_find_268 ?_
        exact k_M_find_271 hF hn X hkb196 h
      · refine j_aload_n X jd_M_find_251 rfl rfl ?_
        refine j_getr X jf_M_79 jk_12_34 js_215 (j_lt rfl hn) (jp_215_34 hF) jd_M_find_252 ?_
        refine j_iload X jd_M_find_255 rfl ?_
        refine j_iald X js_238 (j_lt rfl hn) jd_M_find_257 h (fun _ h => ?_)
        refine j_bipush (v := 9) X jd_M_find_258 (by decide) ?_
        refine j_iadd X jd_M_find_260 ?_
        refine j_bipush (v := 10) X jd_M_find_261 (by decide) ?_
        refine j_idiv X jd_M_find_263 h (fun h => ?_)
        refine j_goto (tgt := 271) X jd_M_find_264 rfl ?_
        exact k_M_find_271 hF hn X hkb196 h
    · refine j_aload_n X jd_M_find_217 rfl rfl ?_
      refine j_dup X jd_M_find_218 rfl ?_
      refine j_get X jf_M_244 jk_12_39 js_215 (j_lt rfl hn) jd_M_find_219 ?_
      refine j_iconst (v := 1) X jd_M_find_222 (by decide) ?_
      refine j_iadd X jd_M_find_223 ?_
      refine j_puti X jt_M jto_M jn_M jf_M_244 jk_12_39 js_215 (j_lt rfl hn) (Or.inl rfl) rfl jd_M_find_224 ?_
      refine j_mem h (fun I3 h => ?_)
      refine j_goto (tgt := 274) X jd_M_find_227 rfl ?_
      exact k_M_find_274 hF hn X hkb196 h
set_option maxRecDepth 100000 in
set_option maxHeartbeats 4000000 in
theorem k_M_find_196 {p : Program} {l : Launch} {e : Env} {R : Room} {s : State} {m : MethodId} {args : Array Value} {below : List Frame} {meth : Method} {c : Code} {g : j_G} {b n : Nat} {P : j_R} {F : Nat} (hF : j_Fx 0 260 P) (hn : 260 ≤ n) (X : j_X p R s m args meth c g b 0 jb_M_find 7 "PleasureGardenModel" none)  {x4 : Int32} {I : j_M} {r : Int32 × j_M} (h : f_M_find_196 F x4 I = some r) : j_W p l e R s m args below meth c 7 g b n 0 0 (j_Qv g b n P below args s r) I P 196 [some (.ref (b + 215)), none, none, none, some (.int x4), none, none] [] := by
  refine j_loop (G := fun (q : Int32 × j_M) (r : Int32 × j_M) => j_W p l e R s m args below meth c 7 g b n 0 0 (j_Qv g b n P below args s r) q.2 P 196 [some (.ref (b + 215)), none, none, none, some (.int (q.1)), none, none] []) ?_ F (x4, I) r h
  intro again hrec0 q r h
  exact k_M_find_196b hF hn X (fun x4 I r h => hrec0 (x4, I) r h)  h
set_option maxRecDepth 100000 in
set_option maxHeartbeats 4000000 in
theorem k_M_find_174 {p : Program} {l : Launch} {e : Env} {R : Room} {s : State} {m : MethodId} {args : Array Value} {below : List Frame} {meth : Method} {c : Code} {g : j_G} {b n : Nat} {P : j_R} {F : Nat} (hF : j_Fx 0 260 P) (hn : 260 ≤ n) (X : j_X p R s m args meth c g b 0 jb_M_find 7 "PleasureGardenModel" none) {kb49 : Int32 → Int32 → j_M → Option (Int32 × j_M)} (hkb49 : ∀ (x3 : Int32) (x4 : Int32) (I : j_M) (r : Int32 × j_M), kb49 x3 x4 I = some r → j_W p l e R s m args below meth c 7 g b n 0 0 (j_Qv g b n P below args s r) I P 49 [some (.ref (b + 215)), none, none, some (.int x3), some (.int x4), none, none] []) {x3 : Int32} {x4 : Int32} {I : j_M} {r : Int32 × j_M}  (h : f_M_find_174 F kb49 x3 x4 I = some r) : j_W p l e R s m args below meth c 7 g b n 0 0 (j_Qv g b n P below args s r) I P 174 [some (.ref (b + 215)), none, none, some (.int x3), some (.int x4), none, none] [] := by
  unfold f_M_find_174 at h
  obtain ⟨v4, ev4, h⟩ := j_ex h
  refine j_iinc (v := v4) (lv' := [some (.ref (b + 215)), none, none, some (.int x3), some (.int v4), none, none]) X jd_M_find_174 rfl (by rw [ev4]; rfl) (by decide) rfl ?_
  refine j_goto (tgt := 49) X jd_M_find_177 rfl ?_
  exact hkb49 _ _ _ _ h
set_option maxRecDepth 100000 in
set_option maxHeartbeats 4000000 in
theorem k_M_find_125 {p : Program} {l : Launch} {e : Env} {R : Room} {s : State} {m : MethodId} {args : Array Value} {below : List Frame} {meth : Method} {c : Code} {g : j_G} {b n : Nat} {P : j_R} {F : Nat} (hF : j_Fx 0 260 P) (hn : 260 ≤ n) (X : j_X p R s m args meth c g b 0 jb_M_find 7 "PleasureGardenModel" none) {kb49 : Int32 → Int32 → j_M → Option (Int32 × j_M)} (hkb49 : ∀ (x3 : Int32) (x4 : Int32) (I : j_M) (r : Int32 × j_M), kb49 x3 x4 I = some r → j_W p l e R s m args below meth c 7 g b n 0 0 (j_Qv g b n P below args s r) I P 49 [some (.ref (b + 215)), none, none, some (.int x3), some (.int x4), none, none] []) {x3 : Int32} {x4 : Int32} {x5 : Int32} {x6 : Int32} {I : j_M} {r : Int32 × j_M}  (h : f_M_find_125 F kb49 x3 x4 x5 x6 I = some r) : j_W p l e R s m args below meth c 7 g b n 0 0 (j_Qv g b n P below args s r) I P 125 [some (.ref (b + 215)), none, none, some (.int x3), some (.int x4), some (.int x5), some (.int x6)] [] := by
  unfold f_M_find_125 at h
  refine j_aload_n X jd_M_find_125 rfl rfl ?_
  refine j_getr X jf_M_79 jk_12_34 js_215 (j_lt rfl hn) (jp_215_34 hF) jd_M_find_126 ?_
  refine j_iload X jd_M_find_129 rfl ?_
  refine j_iald X js_238 (j_lt rfl hn) jd_M_find_131 h (fun _ h => ?_)
  refine j_aload_n X jd_M_find_132 rfl rfl ?_
  refine j_getr X jf_M_76 jk_12_33 js_215 (j_lt rfl hn) (jp_215_33 hF) jd_M_find_133 ?_
  refine j_iload X jd_M_find_136 rfl ?_
  refine j_iald X js_237 (j_lt rfl hn) jd_M_find_138 h (fun _ h => ?_)
  refine j_iadd X jd_M_find_139 ?_
  refine j_aload_n X jd_M_find_140 rfl rfl ?_
  refine j_getr X jf_M_79 jk_12_34 js_215 (j_lt rfl hn) (jp_215_34 hF) jd_M_find_141 ?_
  refine j_iload X jd_M_find_144 rfl ?_
  refine j_iald X js_238 (j_lt rfl hn) jd_M_find_146 h (fun _ h => ?_)
  refine j_icmp_ge (tgt := 174) X jd_M_find_147 rfl h (fun h => ?_) (fun h => ?_)
  · refine j_sub [true, false, false, true, true, false, false] (lv' := [some (.ref (b + 215)), none, none, some (.int x3), some (.int x4), none, none]) rfl ?_
    exact k_M_find_174 hF hn X hkb49 h
  · refine j_aload_n X jd_M_find_150 rfl rfl ?_
    refine j_getr X jf_M_79 jk_12_34 js_215 (j_lt rfl hn) (jp_215_34 hF) jd_M_find_151 ?_
    refine j_iload X jd_M_find_154 rfl ?_
    refine j_aload_n X jd_M_find_156 rfl rfl ?_
    refine j_getr X jf_M_79 jk_12_34 js_215 (j_lt rfl hn) (jp_215_34 hF) jd_M_find_157 ?_
    refine j_iload X jd_M_find_160 rfl ?_
    refine j_iald X js_238 (j_lt rfl hn) jd_M_find_162 h (fun _ h => ?_)
    refine j_aload_n X jd_M_find_163 rfl rfl ?_
    refine j_getr X jf_M_76 jk_12_33 js_215 (j_lt rfl hn) (jp_215_33 hF) jd_M_find_164 ?_
    refine j_iload X jd_M_find_167 rfl ?_
    refine j_iald X js_237 (j_lt rfl hn) jd_M_find_169 h (fun _ h => ?_)
    refine j_iadd X jd_M_find_170 ?_
    refine j_iast X js_238 (j_lt rfl hn) jd_M_find_171 h (fun h => ?_)
    refine j_mem h (fun I5 h => ?_)
    refine j_iconst (v := 1) X jd_M_find_172 (by decide) ?_
    refine j_istore_n (lv' := [some (.ref (b + 215)), none, none, some (.int 1), some (.int x4), some (.int x5), some (.int x6)]) X jd_M_find_173 rfl (by decide) rfl ?_
    refine j_sub [true, false, false, true, true, false, false] (lv' := [some (.ref (b + 215)), none, none, some (.int 1), some (.int x4), none, none]) rfl ?_
    exact k_M_find_174 hF hn X hkb49 h
set_option maxRecDepth 100000 in
set_option maxHeartbeats 4000000 in
theorem k_M_find_49b {p : Program} {l : Launch} {e : Env} {R : Room} {s : State} {m : MethodId} {args : Array Value} {below : List Frame} {meth : Method} {c : Code} {g : j_G} {b n : Nat} {P : j_R} {F : Nat} (hF : j_Fx 0 260 P) (hn : 260 ≤ n) (X : j_X p R s m args meth c g b 0 jb_M_find 7 "PleasureGardenModel" none) {kb49 : Int32 → Int32 → j_M → Option (Int32 × j_M)} (hkb49 : ∀ (x3 : Int32) (x4 : Int32) (I : j_M) (r : Int32 × j_M), kb49 x3 x4 I = some r → j_W p l e R s m args below meth c 7 g b n 0 0 (j_Qv g b n P below args s r) I P 49 [some (.ref (b + 215)), none, none, some (.int x3), some (.int x4), none, none] []) {kb40 : Int32 → j_M → Option (Int32 × j_M)} (hkb40 : ∀ (x3 : Int32) (I : j_M) (r : Int32 × j_M), kb40 x3 I = some r → j_W p l e R s m args below meth c 7 g b n 0 0 (j_Qv g b n P below args s r) I P 40 [some (.ref (b + 215)), none, none, some (.int x3), none, none, none] []) {x3 : Int32} {x4 : Int32} {I : j_M} {r : Int32 × j_M}  (h : f_M_find_49b F kb49 kb40 x3 x4 I = some r) : j_W p l e R s m args below meth c 7 g b n 0 0 (j_Qv g b n P below args s r) I P 49 [some (.ref (b + 215)), none, none, some (.int x3), some (.int x4), none, none] [] := by
  unfold f_M_find_49b at h
  refine j_iload X jd_M_find_49 rfl ?_
  refine j_aload_n X jd_M_find_51 rfl rfl ?_
  refine j_get X jf_M_238 jk_12_30 js_215 (j_lt rfl hn) jd_M_find_52 ?_
  refine j_icmp_ge (tgt := 180) X jd_M_find_55 rfl h (fun h => ?_) (fun h => ?_)
  · refine j_goto (tgt := 40) X jd_M_find_180 rfl ?_
    refine j_sub [true, false, false, true, false, false, false] (lv' := [some (.ref (b + 215)), none, none, some (.int x3), none, none, none]) rfl ?_
    exact hkb40 _ _ _ h
  · refine j_aload_n X jd_M_find_58 rfl rfl ?_
    refine j_getr X jf_M_70 jk_12_31 js_215 (j_lt rfl hn) (jp_215_31 hF) jd_M_find_59 ?_
    refine j_iload X jd_M_find_62 rfl ?_
    refine j_iald X js_235 (j_lt rfl hn) jd_M_find_64 h (fun _ h => ?_)
    refine j_nm h (fun v6 h => ?_)
    refine j_istore (lv' := [some (.ref (b + 215)), none, none, some (.int x3), some (.int x4), some (.int v6), none]) X jd_M_find_65 (by decide) rfl ?_
    refine j_aload_n X jd_M_find_67 rfl rfl ?_
    refine j_getr X jf_M_73 jk_12_32 js_215 (j_lt rfl hn) (jp_215_32 hF) jd_M_find_68 ?_
    refine j_iload X jd_M_find_71 rfl ?_
    refine j_iald X js_236 (j_lt rfl hn) jd_M_find_73 h (fun _ h => ?_)
    refine j_nm h (fun v7 h => ?_)
    refine j_istore (lv' := [some (.ref (b + 215)), none, none, some (.int x3), some (.int x4), some (.int v6), some (.int v7)]) X jd_M_find_74 (by decide) rfl ?_
    refine j_aload_n X jd_M_find_76 rfl rfl ?_
    refine j_getr X jf_M_79 jk_12_34 js_215 (j_lt rfl hn) (jp_215_34 hF) jd_M_find_77 ?_
    refine j_iload X jd_M_find_80 rfl ?_
    refine j_iald X js_238 (j_lt rfl hn) jd_M_find_82 h (fun _ h => ?_)
    refine j_aload_n X jd_M_find_83 rfl rfl ?_
    refine j_getr X jf_M_76 jk_12_33 js_215 (j_lt rfl hn) (jp_215_33 hF) jd_M_find_84 ?_
    refine j_iload X jd_M_find_87 rfl ?_
    refine j_iald X js_237 (j_lt rfl hn) jd_M_find_89 h (fun _ h => ?_)
    refine j_iadd X jd_M_find_90 ?_
    refine j_aload_n X jd_M_find_91 rfl rfl ?_
    refine j_getr X jf_M_79 jk_12_34 js_215 (j_lt rfl hn) (jp_215_34 hF) jd_M_find_92 ?_
    refine j_iload X jd_M_find_95 rfl ?_
    refine j_iald X js_238 (j_lt rfl hn) jd_M_find_97 h (fun _ h => ?_)
    refine j_icmp_ge (tgt := 125) X jd_M_find_98 rfl h (fun h => ?_) (fun h => ?_)
    · exact k_M_find_125 hF hn X hkb49 h
    · refine j_aload_n X jd_M_find_101 rfl rfl ?_
      refine j_getr X jf_M_79 jk_12_34 js_215 (j_lt rfl hn) (jp_215_34 hF) jd_M_find_102 ?_
      refine j_iload X jd_M_find_105 rfl ?_
      refine j_aload_n X jd_M_find_107 rfl rfl ?_
      refine j_getr X jf_M_79 jk_12_34 js_215 (j_lt rfl hn) (jp_215_34 hF) jd_M_find_108 ?_
      refine j_iload X jd_M_find_111 rfl ?_
      refine j_iald X js_238 (j_lt rfl hn) jd_M_find_113 h (fun _ h => ?_)
      refine j_aload_n X jd_M_find_114 rfl rfl ?_
      refine j_getr X jf_M_76 jk_12_33 js_215 (j_lt rfl hn) (jp_215_33 hF) jd_M_find_115 ?_
      refine j_iload X jd_M_find_118 rfl ?_
      refine j_iald X js_237 (j_lt rfl hn) jd_M_find_120 h (fun _ h => ?_)
      refine j_iadd X jd_M_find_121 ?_
      refine j_iast X js_238 (j_lt rfl hn) jd_M_find_122 h (fun h => ?_)
      refine j_mem h (fun I8 h => ?_)
      refine j_iconst (v := 1) X jd_M_find_123 (by decide) ?_
      refine j_istore_n (lv' := [some (.ref (b + 215)), none, none, some (.int 1), some (.int x4), some (.int v6), some (.int v7)]) X jd_M_find_124 rfl (by decide) rfl ?_
      exact k_M_find_125 hF hn X hkb49 h
set_option maxRecDepth 100000 in
set_option maxHeartbeats 4000000 in
theorem k_M_find_49 {p : Program} {l : Launch} {e : Env} {R : Room} {s : State} {m : MethodId} {args : Array Value} {below : List Frame} {meth : Method} {c : Code} {g : j_G} {b n : Nat} {P : j_R} {F : Nat} (hF : j_Fx 0 260 P) (hn : 260 ≤ n) (X : j_X p R s m args meth c g b 0 jb_M_find 7 "PleasureGardenModel" none) {kb40 : Int32 → j_M → Option (Int32 × j_M)} (hkb40 : ∀ (x3 : Int32) (I : j_M) (r : Int32 × j_M), kb40 x3 I = some r → j_W p l e R s m args below meth c 7 g b n 0 0 (j_Qv g b n P below args s r) I P 40 [some (.ref (b + 215)), none, none, some (.int x3), none, none, none] []) {x3 : Int32} {x4 : Int32} {I : j_M} {r : Int32 × j_M} (h : f_M_find_49 F kb40 x3 x4 I = some r) : j_W p l e R s m args below meth c 7 g b n 0 0 (j_Qv g b n P below args s r) I P 49 [some (.ref (b + 215)), none, none, some (.int x3), some (.int x4), none, none] [] := by
  refine j_loop (G := fun (q : Int32 × Int32 × j_M) (r : Int32 × j_M) => j_W p l e R s m args below meth c 7 g b n 0 0 (j_Qv g b n P below args s r) q.2.2 P 49 [some (.ref (b + 215)), none, none, some (.int (q.1)), some (.int (q.2.1)), none, none] []) ?_ F (x3, x4, I) r h
  intro again hrec0 q r h
  exact k_M_find_49b hF hn X (fun x3 x4 I r h => hrec0 (x3, x4, I) r h) hkb40 h
set_option maxRecDepth 100000 in
set_option maxHeartbeats 4000000 in
theorem k_M_find_40b {p : Program} {l : Launch} {e : Env} {R : Room} {s : State} {m : MethodId} {args : Array Value} {below : List Frame} {meth : Method} {c : Code} {g : j_G} {b n : Nat} {P : j_R} {F : Nat} (hF : j_Fx 0 260 P) (hn : 260 ≤ n) (X : j_X p R s m args meth c g b 0 jb_M_find 7 "PleasureGardenModel" none) {kb40 : Int32 → j_M → Option (Int32 × j_M)} (hkb40 : ∀ (x3 : Int32) (I : j_M) (r : Int32 × j_M), kb40 x3 I = some r → j_W p l e R s m args below meth c 7 g b n 0 0 (j_Qv g b n P below args s r) I P 40 [some (.ref (b + 215)), none, none, some (.int x3), none, none, none] []) {x3 : Int32} {I : j_M} {r : Int32 × j_M}  (h : f_M_find_40b F kb40 x3 I = some r) : j_W p l e R s m args below meth c 7 g b n 0 0 (j_Qv g b n P below args s r) I P 40 [some (.ref (b + 215)), none, none, some (.int x3), none, none, none] [] := by
  unfold f_M_find_40b at h
  refine j_iload_n X jd_M_find_40 rfl rfl ?_
  refine j_if_eq (tgt := 183) X jd_M_find_41 rfl h (fun h => ?_) (fun h => ?_)
  · refine j_aload_n X jd_M_find_183 rfl rfl ?_
    refine j_iconst (v := 0) X jd_M_find_184 (by decide) ?_
    refine j_puti X jt_M jto_M jn_M jf_M_241 jk_12_38 js_215 (j_lt rfl hn) (Or.inl rfl) rfl jd_M_find_185 ?_
    refine j_mem h (fun I9 h => ?_)
    refine j_aload_n X jd_M_find_188 rfl rfl ?_
    refine j_iconst (v := 0) X jd_M_find_189 (by decide) ?_
    refine j_puti X jt_M jto_M jn_M jf_M_244 jk_12_39 js_215 (j_lt rfl hn) (Or.inl rfl) rfl jd_M_find_190 ?_
    refine j_mem h (fun I10 h => ?_)
    refine j_iconst (v := 0) X jd_M_find_193 (by decide) ?_
    refine j_istore (lv' := [some (.ref (b + 215)), none, none, some (.int x3), some (.int 0), none, none]) X jd_M_find_194 (by decide) rfl ?_
    refine j_sub [true, false, false, false, true, false, false] (lv' := [some (.ref (b + 215)), none, none, none, some (.int 0), none, none]) rfl ?_
    exact k_M_find_196 hF hn X h
  · refine j_iconst (v := 0) X jd_M_find_44 (by decide) ?_
    refine j_istore_n (lv' := [some (.ref (b + 215)), none, none, some (.int 0), none, none, none]) X jd_M_find_45 rfl (by decide) rfl ?_
    refine j_iconst (v := 0) X jd_M_find_46 (by decide) ?_
    refine j_istore (lv' := [some (.ref (b + 215)), none, none, some (.int 0), some (.int 0), none, none]) X jd_M_find_47 (by decide) rfl ?_
    exact k_M_find_49 hF hn X hkb40 h
set_option maxRecDepth 100000 in
set_option maxHeartbeats 4000000 in
theorem k_M_find_40 {p : Program} {l : Launch} {e : Env} {R : Room} {s : State} {m : MethodId} {args : Array Value} {below : List Frame} {meth : Method} {c : Code} {g : j_G} {b n : Nat} {P : j_R} {F : Nat} (hF : j_Fx 0 260 P) (hn : 260 ≤ n) (X : j_X p R s m args meth c g b 0 jb_M_find 7 "PleasureGardenModel" none)  {x3 : Int32} {I : j_M} {r : Int32 × j_M} (h : f_M_find_40 F x3 I = some r) : j_W p l e R s m args below meth c 7 g b n 0 0 (j_Qv g b n P below args s r) I P 40 [some (.ref (b + 215)), none, none, some (.int x3), none, none, none] [] := by
  refine j_loop (G := fun (q : Int32 × j_M) (r : Int32 × j_M) => j_W p l e R s m args below meth c 7 g b n 0 0 (j_Qv g b n P below args s r) q.2 P 40 [some (.ref (b + 215)), none, none, some (.int (q.1)), none, none, none] []) ?_ F (x3, I) r h
  intro again hrec0 q r h
  exact k_M_find_40b hF hn X (fun x3 I r h => hrec0 (x3, I) r h)  h
set_option maxRecDepth 100000 in
set_option maxHeartbeats 4000000 in
theorem k_M_find_31 {p : Program} {l : Launch} {e : Env} {R : Room} {s : State} {m : MethodId} {args : Array Value} {below : List Frame} {meth : Method} {c : Code} {g : j_G} {b n : Nat} {P : j_R} {F : Nat} (hF : j_Fx 0 260 P) (hn : 260 ≤ n) (X : j_X p R s m args meth c g b 0 jb_M_find 7 "PleasureGardenModel" none) {kb2 : Int32 → Int32 → Int32 → j_M → Option (Int32 × j_M)} (hkb2 : ∀ (x1 : Int32) (x2 : Int32) (x3 : Int32) (I : j_M) (r : Int32 × j_M), kb2 x1 x2 x3 I = some r → j_W p l e R s m args below meth c 7 g b n 0 0 (j_Qv g b n P below args s r) I P 2 [some (.ref (b + 215)), some (.int x1), some (.int x2), some (.int x3), none, none, none] []) {x1 : Int32} {x2 : Int32} {x3 : Int32} {s1 : Int32} {s2 : Int32} {I : j_M} {r : Int32 × j_M}  (h : f_M_find_31 F kb2 x1 x2 x3 s1 s2 I = some r) : j_W p l e R s m args below meth c 7 g b n 0 0 (j_Qv g b n P below args s r) I P 31 [some (.ref (b + 215)), some (.int x1), some (.int x2), some (.int x3), none, none, none] [.int s2, .int s1, .ref (b + 238)] := by
  unfold f_M_find_31 at h
  refine j_iast X js_238 (j_lt rfl hn) jd_M_find_31 h (fun h => ?_)
  refine j_mem h (fun I11 h => ?_)
  obtain ⟨v12, ev12, h⟩ := j_ex h
  refine j_iinc (v := v12) (lv' := [some (.ref (b + 215)), some (.int x1), some (.int x2), some (.int v12), none, none, none]) X jd_M_find_32 rfl (by rw [ev12]; rfl) (by decide) rfl ?_
  refine j_goto (tgt := 2) X jd_M_find_35 rfl ?_
  exact hkb2 _ _ _ _ _ h
set_option maxRecDepth 100000 in
set_option maxHeartbeats 4000000 in
theorem k_M_find_25 {p : Program} {l : Launch} {e : Env} {R : Room} {s : State} {m : MethodId} {args : Array Value} {below : List Frame} {meth : Method} {c : Code} {g : j_G} {b n : Nat} {P : j_R} {F : Nat} (hF : j_Fx 0 260 P) (hn : 260 ≤ n) (X : j_X p R s m args meth c g b 0 jb_M_find 7 "PleasureGardenModel" none) {kb2 : Int32 → Int32 → Int32 → j_M → Option (Int32 × j_M)} (hkb2 : ∀ (x1 : Int32) (x2 : Int32) (x3 : Int32) (I : j_M) (r : Int32 × j_M), kb2 x1 x2 x3 I = some r → j_W p l e R s m args below meth c 7 g b n 0 0 (j_Qv g b n P below args s r) I P 2 [some (.ref (b + 215)), some (.int x1), some (.int x2), some (.int x3), none, none, none] []) {x1 : Int32} {x2 : Int32} {x3 : Int32} {s1 : Int32} {I : j_M} {r : Int32 × j_M}  (h : f_M_find_25 F kb2 x1 x2 x3 s1 I = some r) : j_W p l e R s m args below meth c 7 g b n 0 0 (j_Qv g b n P below args s r) I P 25 [some (.ref (b + 215)), some (.int x1), some (.int x2), some (.int x3), none, none, none] [.int s1, .ref (b + 238)] := by
  unfold f_M_find_25 at h
  refine j_iconst (v := 0) X jd_M_find_25 (by decide) ?_
  refine j_goto (tgt := 31) X jd_M_find_26 rfl ?_
  exact k_M_find_31 hF hn X hkb2 h
set_option maxRecDepth 100000 in
set_option maxHeartbeats 4000000 in
theorem k_M_find_2b {p : Program} {l : Launch} {e : Env} {R : Room} {s : State} {m : MethodId} {args : Array Value} {below : List Frame} {meth : Method} {c : Code} {g : j_G} {b n : Nat} {P : j_R} {F : Nat} (hF : j_Fx 0 260 P) (hn : 260 ≤ n) (X : j_X p R s m args meth c g b 0 jb_M_find 7 "PleasureGardenModel" none) {kb2 : Int32 → Int32 → Int32 → j_M → Option (Int32 × j_M)} (hkb2 : ∀ (x1 : Int32) (x2 : Int32) (x3 : Int32) (I : j_M) (r : Int32 × j_M), kb2 x1 x2 x3 I = some r → j_W p l e R s m args below meth c 7 g b n 0 0 (j_Qv g b n P below args s r) I P 2 [some (.ref (b + 215)), some (.int x1), some (.int x2), some (.int x3), none, none, none] []) {x1 : Int32} {x2 : Int32} {x3 : Int32} {I : j_M} {r : Int32 × j_M}  (h : f_M_find_2b F kb2 x1 x2 x3 I = some r) : j_W p l e R s m args below meth c 7 g b n 0 0 (j_Qv g b n P below args s r) I P 2 [some (.ref (b + 215)), some (.int x1), some (.int x2), some (.int x3), none, none, none] [] := by
  unfold f_M_find_2b at h
  refine j_iload_n X jd_M_find_2 rfl rfl ?_
  refine j_aload_n X jd_M_find_3 rfl rfl ?_
  refine j_get X jf_M_232 jk_12_28 js_215 (j_lt rfl hn) jd_M_find_4 ?_
  refine j_icmp_ge (tgt := 38) X jd_M_find_7 rfl h (fun h => ?_) (fun h => ?_)
  · refine j_iconst (v := 1) X jd_M_find_38 (by decide) ?_
    refine j_istore_n (lv' := [some (.ref (b + 215)), some (.int x1), some (.int x2), some (.int 1), none, none, none]) X jd_M_find_39 rfl (by decide) rfl ?_
    refine j_sub [true, false, false, true, false, false, false] (lv' := [some (.ref (b + 215)), none, none, some (.int 1), none, none, none]) rfl ?_
    exact k_M_find_40 hF hn X h
  · refine j_aload_n X jd_M_find_10 rfl rfl ?_
    refine j_getr X jf_M_79 jk_12_34 js_215 (j_lt rfl hn) (jp_215_34 hF) jd_M_find_11 ?_
    refine j_iload_n X jd_M_find_14 rfl rfl ?_
    refine j_iload_n X jd_M_find_15 rfl rfl ?_
    refine j_iload_n X jd_M_find_16 rfl rfl ?_
    refine j_icmp_eq (tgt := 25) X jd_M_find_17 rfl h (fun h => ?_) (fun h => ?_)
    · exact k_M_find_25 hF hn X hkb2 h
    · refine j_iload_n X jd_M_find_20 rfl rfl ?_
      refine j_iload_n X jd_M_find_21 rfl rfl ?_
      refine j_icmp_ne (tgt := 29) X jd_M_find_22 rfl h (fun h => ?_) (fun h => ?_)
      · exact k_M_find_25 hF hn X hkb2 h
      · refine j_ldc (v := 1000000) X jlc_M_166 jd_M_find_29 ?_
        exact k_M_find_31 hF hn X hkb2 h
set_option maxRecDepth 100000 in
set_option maxHeartbeats 4000000 in
theorem k_M_find_2 {p : Program} {l : Launch} {e : Env} {R : Room} {s : State} {m : MethodId} {args : Array Value} {below : List Frame} {meth : Method} {c : Code} {g : j_G} {b n : Nat} {P : j_R} {F : Nat} (hF : j_Fx 0 260 P) (hn : 260 ≤ n) (X : j_X p R s m args meth c g b 0 jb_M_find 7 "PleasureGardenModel" none)  {x1 : Int32} {x2 : Int32} {x3 : Int32} {I : j_M} {r : Int32 × j_M} (h : f_M_find_2 F x1 x2 x3 I = some r) : j_W p l e R s m args below meth c 7 g b n 0 0 (j_Qv g b n P below args s r) I P 2 [some (.ref (b + 215)), some (.int x1), some (.int x2), some (.int x3), none, none, none] [] := by
  refine j_loop (G := fun (q : Int32 × Int32 × Int32 × j_M) (r : Int32 × j_M) => j_W p l e R s m args below meth c 7 g b n 0 0 (j_Qv g b n P below args s r) q.2.2.2 P 2 [some (.ref (b + 215)), some (.int (q.1)), some (.int (q.2.1)), some (.int (q.2.2.1)), none, none, none] []) ?_ F (x1, x2, x3, I) r h
  intro again hrec0 q r h
  exact k_M_find_2b hF hn X (fun x1 x2 x3 I r h => hrec0 (x1, x2, x3, I) r h)  h
set_option maxRecDepth 100000 in
set_option maxHeartbeats 4000000 in
theorem k_M_find {l : Launch} {g : j_G} {b n : Nat} {P : j_R} {F : Nat} (hF : j_Fx 0 260 P) (hn : 260 ≤ n) {x1 : Int32} {x2 : Int32} {I : j_M} {r : Int32 × j_M}  (h : f_M_find F x1 x2 I = some r) : j_Met l g b n P 0 jy_M_find jb_M_find 7 none [.ref (b + 215), .int x1, .int x2] I r.2 none := by
  unfold f_M_find at h
  refine j_enter (plainFor_of_name (by decide)) (Nat.le_of_ble_eq_true rfl) [some (.ref (b + 215)), some (.int x1), some (.int x2), none, none, none, none] rfl ?_
  intro p e R s m args below meth c X0 hnm hRc hRs
  have X : j_X p R s m args meth c g b 0 jb_M_find 7 "PleasureGardenModel" none := X0
  clear X0
  refine j_iconst (v := 0) X jd_M_find_0 (by decide) ?_
  refine j_istore_n (lv' := [some (.ref (b + 215)), some (.int x1), some (.int x2), some (.int 0), none, none, none]) X jd_M_find_1 rfl (by decide) rfl ?_
  exact k_M_find_2 hF hn X h
-- PleasureGardenModel.dark()I
theorem jd_M_dark_0 : decode jb_M_dark 0 = .ok (.iconst 0, 1) := by decide +kernel
theorem jd_M_dark_1 : decode jb_M_dark 1 = .ok (.istore_n 1, 1) := by decide +kernel
theorem jd_M_dark_2 : decode jb_M_dark 2 = .ok (.iconst 0, 1) := by decide +kernel
theorem jd_M_dark_3 : decode jb_M_dark 3 = .ok (.istore_n 2, 1) := by decide +kernel
theorem jd_M_dark_4 : decode jb_M_dark 4 = .ok (.iload_n 2, 1) := by decide +kernel
theorem jd_M_dark_5 : decode jb_M_dark 5 = .ok (.aload_n 0, 1) := by decide +kernel
theorem jd_M_dark_6 : decode jb_M_dark 6 = .ok (.getfield 232, 3) := by decide +kernel
theorem jd_M_dark_9 : decode jb_M_dark 9 = .ok (.if_icmp .ge 35, 3) := by decide +kernel
theorem jd_M_dark_12 : decode jb_M_dark 12 = .ok (.iload_n 1, 1) := by decide +kernel
theorem jd_M_dark_13 : decode jb_M_dark 13 = .ok (.aload_n 0, 1) := by decide +kernel
theorem jd_M_dark_14 : decode jb_M_dark 14 = .ok (.getfield 250, 3) := by decide +kernel
theorem jd_M_dark_17 : decode jb_M_dark 17 = .ok (.ifCond .eq 18, 3) := by decide +kernel
theorem jd_M_dark_20 : decode jb_M_dark 20 = .ok (.aload_n 0, 1) := by decide +kernel
theorem jd_M_dark_21 : decode jb_M_dark 21 = .ok (.getfield 82, 3) := by decide +kernel
theorem jd_M_dark_24 : decode jb_M_dark 24 = .ok (.iload_n 2, 1) := by decide +kernel
theorem jd_M_dark_25 : decode jb_M_dark 25 = .ok (.iaload, 1) := by decide +kernel
theorem jd_M_dark_26 : decode jb_M_dark 26 = .ok (.ldc 166, 2) := by decide +kernel
theorem jd_M_dark_28 : decode jb_M_dark 28 = .ok (.if_icmp .ge 7, 3) := by decide +kernel
theorem jd_M_dark_31 : decode jb_M_dark 31 = .ok (.iconst 0, 1) := by decide +kernel
theorem jd_M_dark_32 : decode jb_M_dark 32 = .ok (.goto 4, 3) := by decide +kernel
theorem jd_M_dark_35 : decode jb_M_dark 35 = .ok (.iconst 1, 1) := by decide +kernel
theorem jd_M_dark_36 : decode jb_M_dark 36 = .ok (.iadd, 1) := by decide +kernel
theorem jd_M_dark_37 : decode jb_M_dark 37 = .ok (.istore_n 1, 1) := by decide +kernel
theorem jd_M_dark_38 : decode jb_M_dark 38 = .ok (.iinc 2 1, 3) := by decide +kernel
theorem jd_M_dark_41 : decode jb_M_dark 41 = .ok (.goto (-37), 3) := by decide +kernel
theorem jd_M_dark_44 : decode jb_M_dark 44 = .ok (.iload_n 1, 1) := by decide +kernel
theorem jd_M_dark_45 : decode jb_M_dark 45 = .ok (.ireturn, 1) := by decide +kernel
def f_M_dark_36 (F : Nat) (kb4 : Int32 → Int32 → j_M → Option (Int32 × j_M)) (x2 : Int32) (s0 : Int32) (s1 : Int32) (I : j_M) : Option (Int32 × j_M) := j_let (s0 + s1) (fun v1 => j_let (x2 + 1) (fun v2 => kb4 v1 v2 I))
def f_M_dark_35 (F : Nat) (kb4 : Int32 → Int32 → j_M → Option (Int32 × j_M)) (x2 : Int32) (s0 : Int32) (I : j_M) : Option (Int32 × j_M) := f_M_dark_36 F kb4 x2 s0 1 I
def f_M_dark_4b (F : Nat) (kb4 : Int32 → Int32 → j_M → Option (Int32 × j_M)) (x1 : Int32) (x2 : Int32) (I : j_M) : Option (Int32 × j_M) := (if (I 215 28) ≤ x2 then some (x1, I) else (if (I 215 36) = 0 then f_M_dark_35 F kb4 x2 x1 I else (if j_ok x2 40 = true then (if 1000000 ≤ (I 239 (j_ix x2)) then f_M_dark_35 F kb4 x2 x1 I else f_M_dark_36 F kb4 x2 x1 0 I) else none)))
def f_M_dark_4 (F : Nat)  (x1 : Int32) (x2 : Int32) (I : j_M) : Option (Int32 × j_M) := j_it (fun (again : Int32 × Int32 × j_M → Option (Int32 × j_M)) (q : Int32 × Int32 × j_M) => f_M_dark_4b F  (fun x1 x2 I => again (x1, x2, I))  q.1 q.2.1 q.2.2) F (x1, x2, I)
def f_M_dark (F : Nat)  (I : j_M) : Option (Int32 × j_M) := f_M_dark_4 F 0 0 I
set_option maxRecDepth 100000 in
set_option maxHeartbeats 4000000 in
theorem k_M_dark_36 {p : Program} {l : Launch} {e : Env} {R : Room} {s : State} {m : MethodId} {args : Array Value} {below : List Frame} {meth : Method} {c : Code} {g : j_G} {b n : Nat} {P : j_R} {F : Nat} (hF : j_Fx 0 260 P) (hn : 260 ≤ n) (X : j_X p R s m args meth c g b 0 jb_M_dark 3 "PleasureGardenModel" (some .int)) {kb4 : Int32 → Int32 → j_M → Option (Int32 × j_M)} (hkb4 : ∀ (x1 : Int32) (x2 : Int32) (I : j_M) (r : Int32 × j_M), kb4 x1 x2 I = some r → j_W p l e R s m args below meth c 3 g b n 0 0 (j_Qi g b n P below args s r) I P 4 [some (.ref (b + 215)), some (.int x1), some (.int x2)] []) {x2 : Int32} {s0 : Int32} {s1 : Int32} {I : j_M} {r : Int32 × j_M}  (h : f_M_dark_36 F kb4 x2 s0 s1 I = some r) : j_W p l e R s m args below meth c 3 g b n 0 0 (j_Qi g b n P below args s r) I P 36 [some (.ref (b + 215)), none, some (.int x2)] [.int s1, .int s0] := by
  unfold f_M_dark_36 at h
  refine j_iadd X jd_M_dark_36 ?_
  refine j_nm h (fun v1 h => ?_)
  refine j_istore_n (lv' := [some (.ref (b + 215)), some (.int v1), some (.int x2)]) X jd_M_dark_37 rfl (by decide) rfl ?_
  obtain ⟨v2, ev2, h⟩ := j_ex h
  refine j_iinc (v := v2) (lv' := [some (.ref (b + 215)), some (.int v1), some (.int v2)]) X jd_M_dark_38 rfl (by rw [ev2]; rfl) (by decide) rfl ?_
  refine j_goto (tgt := 4) X jd_M_dark_41 rfl ?_
  exact hkb4 _ _ _ _ h
set_option maxRecDepth 100000 in
set_option maxHeartbeats 4000000 in
theorem k_M_dark_35 {p : Program} {l : Launch} {e : Env} {R : Room} {s : State} {m : MethodId} {args : Array Value} {below : List Frame} {meth : Method} {c : Code} {g : j_G} {b n : Nat} {P : j_R} {F : Nat} (hF : j_Fx 0 260 P) (hn : 260 ≤ n) (X : j_X p R s m args meth c g b 0 jb_M_dark 3 "PleasureGardenModel" (some .int)) {kb4 : Int32 → Int32 → j_M → Option (Int32 × j_M)} (hkb4 : ∀ (x1 : Int32) (x2 : Int32) (I : j_M) (r : Int32 × j_M), kb4 x1 x2 I = some r → j_W p l e R s m args below meth c 3 g b n 0 0 (j_Qi g b n P below args s r) I P 4 [some (.ref (b + 215)), some (.int x1), some (.int x2)] []) {x2 : Int32} {s0 : Int32} {I : j_M} {r : Int32 × j_M}  (h : f_M_dark_35 F kb4 x2 s0 I = some r) : j_W p l e R s m args below meth c 3 g b n 0 0 (j_Qi g b n P below args s r) I P 35 [some (.ref (b + 215)), none, some (.int x2)] [.int s0] := by
  unfold f_M_dark_35 at h
  refine j_iconst (v := 1) X jd_M_dark_35 (by decide) ?_
  exact k_M_dark_36 hF hn X hkb4 h
set_option maxRecDepth 100000 in
set_option maxHeartbeats 4000000 in
theorem k_M_dark_4b {p : Program} {l : Launch} {e : Env} {R : Room} {s : State} {m : MethodId} {args : Array Value} {below : List Frame} {meth : Method} {c : Code} {g : j_G} {b n : Nat} {P : j_R} {F : Nat} (hF : j_Fx 0 260 P) (hn : 260 ≤ n) (X : j_X p R s m args meth c g b 0 jb_M_dark 3 "PleasureGardenModel" (some .int)) {kb4 : Int32 → Int32 → j_M → Option (Int32 × j_M)} (hkb4 : ∀ (x1 : Int32) (x2 : Int32) (I : j_M) (r : Int32 × j_M), kb4 x1 x2 I = some r → j_W p l e R s m args below meth c 3 g b n 0 0 (j_Qi g b n P below args s r) I P 4 [some (.ref (b + 215)), some (.int x1), some (.int x2)] []) {x1 : Int32} {x2 : Int32} {I : j_M} {r : Int32 × j_M}  (h : f_M_dark_4b F kb4 x1 x2 I = some r) : j_W p l e R s m args below meth c 3 g b n 0 0 (j_Qi g b n P below args s r) I P 4 [some (.ref (b + 215)), some (.int x1), some (.int x2)] [] := by
  unfold f_M_dark_4b at h
  refine j_iload_n X jd_M_dark_4 rfl rfl ?_
  refine j_aload_n X jd_M_dark_5 rfl rfl ?_
  refine j_get X jf_M_232 jk_12_28 js_215 (j_lt rfl hn) jd_M_dark_6 ?_
  refine j_icmp_ge (tgt := 44) X jd_M_dark_9 rfl h (fun h => ?_) (fun h => ?_)
  · refine j_iload_n X jd_M_dark_44 rfl rfl ?_
    exact j_iret X rfl jd_M_dark_45 h
  · refine j_iload_n X jd_M_dark_12 rfl rfl ?_
    refine j_aload_n X jd_M_dark_13 rfl rfl ?_
    refine j_get X jf_M_250 jk_12_36 js_215 (j_lt rfl hn) jd_M_dark_14 ?_
    refine j_if_eq (tgt := 35) X jd_M_dark_17 rfl h (fun h => ?_) (fun h => ?_)
    · refine j_sub [true, false, true] (lv' := [some (.ref (b + 215)), none, some (.int x2)]) rfl ?_
      exact k_M_dark_35 hF hn X hkb4 h
    · refine j_aload_n X jd_M_dark_20 rfl rfl ?_
      refine j_getr X jf_M_82 jk_12_35 js_215 (j_lt rfl hn) (jp_215_35 hF) jd_M_dark_21 ?_
      refine j_iload_n X jd_M_dark_24 rfl rfl ?_
      refine j_iald X js_239 (j_lt rfl hn) jd_M_dark_25 h (fun _ h => ?_)
      refine j_ldc (v := 1000000) X jlc_M_166 jd_M_dark_26 ?_
      refine j_icmp_ge (tgt := 35) X jd_M_dark_28 rfl h (fun h => ?_) (fun h => ?_)
      · refine j_sub [true, false, true] (lv' := [some (.ref (b + 215)), none, some (.int x2)]) rfl ?_
        exact k_M_dark_35 hF hn X hkb4 h
      · refine j_iconst (v := 0) X jd_M_dark_31 (by decide) ?_
        refine j_goto (tgt := 36) X jd_M_dark_32 rfl ?_
        refine j_sub [true, false, true] (lv' := [some (.ref (b + 215)), none, some (.int x2)]) rfl ?_
        exact k_M_dark_36 hF hn X hkb4 h
set_option maxRecDepth 100000 in
set_option maxHeartbeats 4000000 in
theorem k_M_dark_4 {p : Program} {l : Launch} {e : Env} {R : Room} {s : State} {m : MethodId} {args : Array Value} {below : List Frame} {meth : Method} {c : Code} {g : j_G} {b n : Nat} {P : j_R} {F : Nat} (hF : j_Fx 0 260 P) (hn : 260 ≤ n) (X : j_X p R s m args meth c g b 0 jb_M_dark 3 "PleasureGardenModel" (some .int))  {x1 : Int32} {x2 : Int32} {I : j_M} {r : Int32 × j_M} (h : f_M_dark_4 F x1 x2 I = some r) : j_W p l e R s m args below meth c 3 g b n 0 0 (j_Qi g b n P below args s r) I P 4 [some (.ref (b + 215)), some (.int x1), some (.int x2)] [] := by
  refine j_loop (G := fun (q : Int32 × Int32 × j_M) (r : Int32 × j_M) => j_W p l e R s m args below meth c 3 g b n 0 0 (j_Qi g b n P below args s r) q.2.2 P 4 [some (.ref (b + 215)), some (.int (q.1)), some (.int (q.2.1))] []) ?_ F (x1, x2, I) r h
  intro again hrec0 q r h
  exact k_M_dark_4b hF hn X (fun x1 x2 I r h => hrec0 (x1, x2, I) r h)  h
set_option maxRecDepth 100000 in
set_option maxHeartbeats 4000000 in
theorem k_M_dark {l : Launch} {g : j_G} {b n : Nat} {P : j_R} {F : Nat} (hF : j_Fx 0 260 P) (hn : 260 ≤ n)  {I : j_M} {r : Int32 × j_M}  (h : f_M_dark F I = some r) : j_Met l g b n P 0 jy_M_dark jb_M_dark 3 (some .int) [.ref (b + 215)] I r.2 (some (.int r.1)) := by
  unfold f_M_dark at h
  refine j_enter (plainFor_of_name (by decide)) (Nat.le_of_ble_eq_true rfl) [some (.ref (b + 215)), none, none] rfl ?_
  intro p e R s m args below meth c X0 hnm hRc hRs
  have X : j_X p R s m args meth c g b 0 jb_M_dark 3 "PleasureGardenModel" (some .int) := X0
  clear X0
  refine j_iconst (v := 0) X jd_M_dark_0 (by decide) ?_
  refine j_istore_n (lv' := [some (.ref (b + 215)), some (.int 0), none]) X jd_M_dark_1 rfl (by decide) rfl ?_
  refine j_iconst (v := 0) X jd_M_dark_2 (by decide) ?_
  refine j_istore_n (lv' := [some (.ref (b + 215)), some (.int 0), some (.int 0)]) X jd_M_dark_3 rfl (by decide) rfl ?_
  exact k_M_dark_4 hF hn X h
-- PleasureGardenModel.spent()I
theorem jd_M_spent_0 : decode jb_M_spent 0 = .ok (.iconst 0, 1) := by decide +kernel
theorem jd_M_spent_1 : decode jb_M_spent 1 = .ok (.istore_n 1, 1) := by decide +kernel
theorem jd_M_spent_2 : decode jb_M_spent 2 = .ok (.iconst 0, 1) := by decide +kernel
theorem jd_M_spent_3 : decode jb_M_spent 3 = .ok (.istore_n 2, 1) := by decide +kernel
theorem jd_M_spent_4 : decode jb_M_spent 4 = .ok (.iload_n 2, 1) := by decide +kernel
theorem jd_M_spent_5 : decode jb_M_spent 5 = .ok (.aload_n 0, 1) := by decide +kernel
theorem jd_M_spent_6 : decode jb_M_spent 6 = .ok (.getfield 232, 3) := by decide +kernel
theorem jd_M_spent_9 : decode jb_M_spent 9 = .ok (.if_icmp .ge 53, 3) := by decide +kernel
theorem jd_M_spent_12 : decode jb_M_spent 12 = .ok (.iload_n 1, 1) := by decide +kernel
theorem jd_M_spent_13 : decode jb_M_spent 13 = .ok (.aload_n 0, 1) := by decide +kernel
theorem jd_M_spent_14 : decode jb_M_spent 14 = .ok (.getfield 250, 3) := by decide +kernel
theorem jd_M_spent_17 : decode jb_M_spent 17 = .ok (.ifCond .eq 36, 3) := by decide +kernel
theorem jd_M_spent_20 : decode jb_M_spent 20 = .ok (.aload_n 0, 1) := by decide +kernel
theorem jd_M_spent_21 : decode jb_M_spent 21 = .ok (.getfield 82, 3) := by decide +kernel
theorem jd_M_spent_24 : decode jb_M_spent 24 = .ok (.iload_n 2, 1) := by decide +kernel
theorem jd_M_spent_25 : decode jb_M_spent 25 = .ok (.iaload, 1) := by decide +kernel
theorem jd_M_spent_26 : decode jb_M_spent 26 = .ok (.ldc 166, 2) := by decide +kernel
theorem jd_M_spent_28 : decode jb_M_spent 28 = .ok (.if_icmp .ge 25, 3) := by decide +kernel
theorem jd_M_spent_31 : decode jb_M_spent 31 = .ok (.aload_n 0, 1) := by decide +kernel
theorem jd_M_spent_32 : decode jb_M_spent 32 = .ok (.getfield 171, 3) := by decide +kernel
theorem jd_M_spent_35 : decode jb_M_spent 35 = .ok (.aload_n 0, 1) := by decide +kernel
theorem jd_M_spent_36 : decode jb_M_spent 36 = .ok (.getfield 254, 3) := by decide +kernel
theorem jd_M_spent_39 : decode jb_M_spent 39 = .ok (.isub, 1) := by decide +kernel
theorem jd_M_spent_40 : decode jb_M_spent 40 = .ok (.aload_n 0, 1) := by decide +kernel
theorem jd_M_spent_41 : decode jb_M_spent 41 = .ok (.getfield 67, 3) := by decide +kernel
theorem jd_M_spent_44 : decode jb_M_spent 44 = .ok (.iload_n 2, 1) := by decide +kernel
theorem jd_M_spent_45 : decode jb_M_spent 45 = .ok (.iaload, 1) := by decide +kernel
theorem jd_M_spent_46 : decode jb_M_spent 46 = .ok (.if_icmp .lt 7, 3) := by decide +kernel
theorem jd_M_spent_49 : decode jb_M_spent 49 = .ok (.iconst 1, 1) := by decide +kernel
theorem jd_M_spent_50 : decode jb_M_spent 50 = .ok (.goto 4, 3) := by decide +kernel
theorem jd_M_spent_53 : decode jb_M_spent 53 = .ok (.iconst 0, 1) := by decide +kernel
theorem jd_M_spent_54 : decode jb_M_spent 54 = .ok (.iadd, 1) := by decide +kernel
theorem jd_M_spent_55 : decode jb_M_spent 55 = .ok (.istore_n 1, 1) := by decide +kernel
theorem jd_M_spent_56 : decode jb_M_spent 56 = .ok (.iinc 2 1, 3) := by decide +kernel
theorem jd_M_spent_59 : decode jb_M_spent 59 = .ok (.goto (-55), 3) := by decide +kernel
theorem jd_M_spent_62 : decode jb_M_spent 62 = .ok (.iload_n 1, 1) := by decide +kernel
theorem jd_M_spent_63 : decode jb_M_spent 63 = .ok (.ireturn, 1) := by decide +kernel
def f_M_spent_54 (F : Nat) (kb4 : Int32 → Int32 → j_M → Option (Int32 × j_M)) (x2 : Int32) (s0 : Int32) (s1 : Int32) (I : j_M) : Option (Int32 × j_M) := j_let (s0 + s1) (fun v1 => j_let (x2 + 1) (fun v2 => kb4 v1 v2 I))
def f_M_spent_53 (F : Nat) (kb4 : Int32 → Int32 → j_M → Option (Int32 × j_M)) (x2 : Int32) (s0 : Int32) (I : j_M) : Option (Int32 × j_M) := f_M_spent_54 F kb4 x2 s0 0 I
def f_M_spent_4b (F : Nat) (kb4 : Int32 → Int32 → j_M → Option (Int32 × j_M)) (x1 : Int32) (x2 : Int32) (I : j_M) : Option (Int32 × j_M) := (if (I 215 28) ≤ x2 then some (x1, I) else (if (I 215 36) = 0 then f_M_spent_53 F kb4 x2 x1 I else (if j_ok x2 40 = true then (if 1000000 ≤ (I 239 (j_ix x2)) then f_M_spent_53 F kb4 x2 x1 I else (if j_ok x2 40 = true then (if ((I 215 2) - (I 215 37)) < (I 234 (j_ix x2)) then f_M_spent_53 F kb4 x2 x1 I else f_M_spent_54 F kb4 x2 x1 1 I) else none)) else none)))
def f_M_spent_4 (F : Nat)  (x1 : Int32) (x2 : Int32) (I : j_M) : Option (Int32 × j_M) := j_it (fun (again : Int32 × Int32 × j_M → Option (Int32 × j_M)) (q : Int32 × Int32 × j_M) => f_M_spent_4b F  (fun x1 x2 I => again (x1, x2, I))  q.1 q.2.1 q.2.2) F (x1, x2, I)
def f_M_spent (F : Nat)  (I : j_M) : Option (Int32 × j_M) := f_M_spent_4 F 0 0 I
set_option maxRecDepth 100000 in
set_option maxHeartbeats 4000000 in
theorem k_M_spent_54 {p : Program} {l : Launch} {e : Env} {R : Room} {s : State} {m : MethodId} {args : Array Value} {below : List Frame} {meth : Method} {c : Code} {g : j_G} {b n : Nat} {P : j_R} {F : Nat} (hF : j_Fx 0 260 P) (hn : 260 ≤ n) (X : j_X p R s m args meth c g b 0 jb_M_spent 3 "PleasureGardenModel" (some .int)) {kb4 : Int32 → Int32 → j_M → Option (Int32 × j_M)} (hkb4 : ∀ (x1 : Int32) (x2 : Int32) (I : j_M) (r : Int32 × j_M), kb4 x1 x2 I = some r → j_W p l e R s m args below meth c 3 g b n 0 0 (j_Qi g b n P below args s r) I P 4 [some (.ref (b + 215)), some (.int x1), some (.int x2)] []) {x2 : Int32} {s0 : Int32} {s1 : Int32} {I : j_M} {r : Int32 × j_M}  (h : f_M_spent_54 F kb4 x2 s0 s1 I = some r) : j_W p l e R s m args below meth c 3 g b n 0 0 (j_Qi g b n P below args s r) I P 54 [some (.ref (b + 215)), none, some (.int x2)] [.int s1, .int s0] := by
  unfold f_M_spent_54 at h
  refine j_iadd X jd_M_spent_54 ?_
  refine j_nm h (fun v1 h => ?_)
  refine j_istore_n (lv' := [some (.ref (b + 215)), some (.int v1), some (.int x2)]) X jd_M_spent_55 rfl (by decide) rfl ?_
  obtain ⟨v2, ev2, h⟩ := j_ex h
  refine j_iinc (v := v2) (lv' := [some (.ref (b + 215)), some (.int v1), some (.int v2)]) X jd_M_spent_56 rfl (by rw [ev2]; rfl) (by decide) rfl ?_
  refine j_goto (tgt := 4) X jd_M_spent_59 rfl ?_
  exact hkb4 _ _ _ _ h
set_option maxRecDepth 100000 in
set_option maxHeartbeats 4000000 in
theorem k_M_spent_53 {p : Program} {l : Launch} {e : Env} {R : Room} {s : State} {m : MethodId} {args : Array Value} {below : List Frame} {meth : Method} {c : Code} {g : j_G} {b n : Nat} {P : j_R} {F : Nat} (hF : j_Fx 0 260 P) (hn : 260 ≤ n) (X : j_X p R s m args meth c g b 0 jb_M_spent 3 "PleasureGardenModel" (some .int)) {kb4 : Int32 → Int32 → j_M → Option (Int32 × j_M)} (hkb4 : ∀ (x1 : Int32) (x2 : Int32) (I : j_M) (r : Int32 × j_M), kb4 x1 x2 I = some r → j_W p l e R s m args below meth c 3 g b n 0 0 (j_Qi g b n P below args s r) I P 4 [some (.ref (b + 215)), some (.int x1), some (.int x2)] []) {x2 : Int32} {s0 : Int32} {I : j_M} {r : Int32 × j_M}  (h : f_M_spent_53 F kb4 x2 s0 I = some r) : j_W p l e R s m args below meth c 3 g b n 0 0 (j_Qi g b n P below args s r) I P 53 [some (.ref (b + 215)), none, some (.int x2)] [.int s0] := by
  unfold f_M_spent_53 at h
  refine j_iconst (v := 0) X jd_M_spent_53 (by decide) ?_
  exact k_M_spent_54 hF hn X hkb4 h
set_option maxRecDepth 100000 in
set_option maxHeartbeats 4000000 in
theorem k_M_spent_4b {p : Program} {l : Launch} {e : Env} {R : Room} {s : State} {m : MethodId} {args : Array Value} {below : List Frame} {meth : Method} {c : Code} {g : j_G} {b n : Nat} {P : j_R} {F : Nat} (hF : j_Fx 0 260 P) (hn : 260 ≤ n) (X : j_X p R s m args meth c g b 0 jb_M_spent 3 "PleasureGardenModel" (some .int)) {kb4 : Int32 → Int32 → j_M → Option (Int32 × j_M)} (hkb4 : ∀ (x1 : Int32) (x2 : Int32) (I : j_M) (r : Int32 × j_M), kb4 x1 x2 I = some r → j_W p l e R s m args below meth c 3 g b n 0 0 (j_Qi g b n P below args s r) I P 4 [some (.ref (b + 215)), some (.int x1), some (.int x2)] []) {x1 : Int32} {x2 : Int32} {I : j_M} {r : Int32 × j_M}  (h : f_M_spent_4b F kb4 x1 x2 I = some r) : j_W p l e R s m args below meth c 3 g b n 0 0 (j_Qi g b n P below args s r) I P 4 [some (.ref (b + 215)), some (.int x1), some (.int x2)] [] := by
  unfold f_M_spent_4b at h
  refine j_iload_n X jd_M_spent_4 rfl rfl ?_
  refine j_aload_n X jd_M_spent_5 rfl rfl ?_
  refine j_get X jf_M_232 jk_12_28 js_215 (j_lt rfl hn) jd_M_spent_6 ?_
  refine j_icmp_ge (tgt := 62) X jd_M_spent_9 rfl h (fun h => ?_) (fun h => ?_)
  · refine j_iload_n X jd_M_spent_62 rfl rfl ?_
    exact j_iret X rfl jd_M_spent_63 h
  · refine j_iload_n X jd_M_spent_12 rfl rfl ?_
    refine j_aload_n X jd_M_spent_13 rfl rfl ?_
    refine j_get X jf_M_250 jk_12_36 js_215 (j_lt rfl hn) jd_M_spent_14 ?_
    refine j_if_eq (tgt := 53) X jd_M_spent_17 rfl h (fun h => ?_) (fun h => ?_)
    · refine j_sub [true, false, true] (lv' := [some (.ref (b + 215)), none, some (.int x2)]) rfl ?_
      exact k_M_spent_53 hF hn X hkb4 h
    · refine j_aload_n X jd_M_spent_20 rfl rfl ?_
      refine j_getr X jf_M_82 jk_12_35 js_215 (j_lt rfl hn) (jp_215_35 hF) jd_M_spent_21 ?_
      refine j_iload_n X jd_M_spent_24 rfl rfl ?_
      refine j_iald X js_239 (j_lt rfl hn) jd_M_spent_25 h (fun _ h => ?_)
      refine j_ldc (v := 1000000) X jlc_M_166 jd_M_spent_26 ?_
      refine j_icmp_ge (tgt := 53) X jd_M_spent_28 rfl h (fun h => ?_) (fun h => ?_)
      · refine j_sub [true, false, true] (lv' := [some (.ref (b + 215)), none, some (.int x2)]) rfl ?_
        exact k_M_spent_53 hF hn X hkb4 h
      · refine j_aload_n X jd_M_spent_31 rfl rfl ?_
        refine j_get X jf_M_171 jk_12_2 js_215 (j_lt rfl hn) jd_M_spent_32 ?_
        refine j_aload_n X jd_M_spent_35 rfl rfl ?_
        refine j_get X jf_M_254 jk_12_37 js_215 (j_lt rfl hn) jd_M_spent_36 ?_
        refine j_isub X jd_M_spent_39 ?_
        refine j_aload_n X jd_M_spent_40 rfl rfl ?_
        refine j_getr X jf_M_67 jk_12_29 js_215 (j_lt rfl hn) (jp_215_29 hF) jd_M_spent_41 ?_
        refine j_iload_n X jd_M_spent_44 rfl rfl ?_
        refine j_iald X js_234 (j_lt rfl hn) jd_M_spent_45 h (fun _ h => ?_)
        refine j_icmp_lt (tgt := 53) X jd_M_spent_46 rfl h (fun h => ?_) (fun h => ?_)
        · refine j_sub [true, false, true] (lv' := [some (.ref (b + 215)), none, some (.int x2)]) rfl ?_
          exact k_M_spent_53 hF hn X hkb4 h
        · refine j_iconst (v := 1) X jd_M_spent_49 (by decide) ?_
          refine j_goto (tgt := 54) X jd_M_spent_50 rfl ?_
          refine j_sub [true, false, true] (lv' := [some (.ref (b + 215)), none, some (.int x2)]) rfl ?_
          exact k_M_spent_54 hF hn X hkb4 h
set_option maxRecDepth 100000 in
set_option maxHeartbeats 4000000 in
theorem k_M_spent_4 {p : Program} {l : Launch} {e : Env} {R : Room} {s : State} {m : MethodId} {args : Array Value} {below : List Frame} {meth : Method} {c : Code} {g : j_G} {b n : Nat} {P : j_R} {F : Nat} (hF : j_Fx 0 260 P) (hn : 260 ≤ n) (X : j_X p R s m args meth c g b 0 jb_M_spent 3 "PleasureGardenModel" (some .int))  {x1 : Int32} {x2 : Int32} {I : j_M} {r : Int32 × j_M} (h : f_M_spent_4 F x1 x2 I = some r) : j_W p l e R s m args below meth c 3 g b n 0 0 (j_Qi g b n P below args s r) I P 4 [some (.ref (b + 215)), some (.int x1), some (.int x2)] [] := by
  refine j_loop (G := fun (q : Int32 × Int32 × j_M) (r : Int32 × j_M) => j_W p l e R s m args below meth c 3 g b n 0 0 (j_Qi g b n P below args s r) q.2.2 P 4 [some (.ref (b + 215)), some (.int (q.1)), some (.int (q.2.1))] []) ?_ F (x1, x2, I) r h
  intro again hrec0 q r h
  exact k_M_spent_4b hF hn X (fun x1 x2 I r h => hrec0 (x1, x2, I) r h)  h
set_option maxRecDepth 100000 in
set_option maxHeartbeats 4000000 in
theorem k_M_spent {l : Launch} {g : j_G} {b n : Nat} {P : j_R} {F : Nat} (hF : j_Fx 0 260 P) (hn : 260 ≤ n)  {I : j_M} {r : Int32 × j_M}  (h : f_M_spent F I = some r) : j_Met l g b n P 0 jy_M_spent jb_M_spent 3 (some .int) [.ref (b + 215)] I r.2 (some (.int r.1)) := by
  unfold f_M_spent at h
  refine j_enter (plainFor_of_name (by decide)) (Nat.le_of_ble_eq_true rfl) [some (.ref (b + 215)), none, none] rfl ?_
  intro p e R s m args below meth c X0 hnm hRc hRs
  have X : j_X p R s m args meth c g b 0 jb_M_spent 3 "PleasureGardenModel" (some .int) := X0
  clear X0
  refine j_iconst (v := 0) X jd_M_spent_0 (by decide) ?_
  refine j_istore_n (lv' := [some (.ref (b + 215)), some (.int 0), none]) X jd_M_spent_1 rfl (by decide) rfl ?_
  refine j_iconst (v := 0) X jd_M_spent_2 (by decide) ?_
  refine j_istore_n (lv' := [some (.ref (b + 215)), some (.int 0), some (.int 0)]) X jd_M_spent_3 rfl (by decide) rfl ?_
  exact k_M_spent_4 hF hn X h
-- PleasureGardenModel.whoIn(I)I
theorem jd_M_whoIn_0 : decode jb_M_whoIn 0 = .ok (.iconst 0, 1) := by decide +kernel
theorem jd_M_whoIn_1 : decode jb_M_whoIn 1 = .ok (.istore_n 2, 1) := by decide +kernel
theorem jd_M_whoIn_2 : decode jb_M_whoIn 2 = .ok (.iload_n 2, 1) := by decide +kernel
theorem jd_M_whoIn_3 : decode jb_M_whoIn 3 = .ok (.aload_n 0, 1) := by decide +kernel
theorem jd_M_whoIn_4 : decode jb_M_whoIn 4 = .ok (.getfield 180, 3) := by decide +kernel
theorem jd_M_whoIn_7 : decode jb_M_whoIn 7 = .ok (.if_icmp .ge 21, 3) := by decide +kernel
theorem jd_M_whoIn_10 : decode jb_M_whoIn 10 = .ok (.aload_n 0, 1) := by decide +kernel
theorem jd_M_whoIn_11 : decode jb_M_whoIn 11 = .ok (.getfield 47, 3) := by decide +kernel
theorem jd_M_whoIn_14 : decode jb_M_whoIn 14 = .ok (.iload_n 2, 1) := by decide +kernel
theorem jd_M_whoIn_15 : decode jb_M_whoIn 15 = .ok (.iaload, 1) := by decide +kernel
theorem jd_M_whoIn_16 : decode jb_M_whoIn 16 = .ok (.iload_n 1, 1) := by decide +kernel
theorem jd_M_whoIn_17 : decode jb_M_whoIn 17 = .ok (.if_icmp .ne 5, 3) := by decide +kernel
theorem jd_M_whoIn_20 : decode jb_M_whoIn 20 = .ok (.iload_n 2, 1) := by decide +kernel
theorem jd_M_whoIn_21 : decode jb_M_whoIn 21 = .ok (.ireturn, 1) := by decide +kernel
theorem jd_M_whoIn_22 : decode jb_M_whoIn 22 = .ok (.iinc 2 1, 3) := by decide +kernel
theorem jd_M_whoIn_25 : decode jb_M_whoIn 25 = .ok (.goto (-23), 3) := by decide +kernel
theorem jd_M_whoIn_28 : decode jb_M_whoIn 28 = .ok (.bipush (-2), 2) := by decide +kernel
theorem jd_M_whoIn_30 : decode jb_M_whoIn 30 = .ok (.ireturn, 1) := by decide +kernel
def f_M_whoIn_2b (F : Nat) (kb2 : Int32 → Int32 → j_M → Option (Int32 × j_M)) (x1 : Int32) (x2 : Int32) (I : j_M) : Option (Int32 × j_M) := (if (I 215 12) ≤ x2 then some ((-2), I) else (if j_ok x2 100 = true then (if (I 228 (j_ix x2)) = x1 then some (x2, I) else j_let (x2 + 1) (fun v1 => kb2 x1 v1 I)) else none))
def f_M_whoIn_2 (F : Nat)  (x1 : Int32) (x2 : Int32) (I : j_M) : Option (Int32 × j_M) := j_it (fun (again : Int32 × Int32 × j_M → Option (Int32 × j_M)) (q : Int32 × Int32 × j_M) => f_M_whoIn_2b F  (fun x1 x2 I => again (x1, x2, I))  q.1 q.2.1 q.2.2) F (x1, x2, I)
def f_M_whoIn (F : Nat) (x1 : Int32) (I : j_M) : Option (Int32 × j_M) := f_M_whoIn_2 F x1 0 I
set_option maxRecDepth 100000 in
set_option maxHeartbeats 4000000 in
theorem k_M_whoIn_2b {p : Program} {l : Launch} {e : Env} {R : Room} {s : State} {m : MethodId} {args : Array Value} {below : List Frame} {meth : Method} {c : Code} {g : j_G} {b n : Nat} {P : j_R} {F : Nat} (hF : j_Fx 0 260 P) (hn : 260 ≤ n) (X : j_X p R s m args meth c g b 0 jb_M_whoIn 3 "PleasureGardenModel" (some .int)) {kb2 : Int32 → Int32 → j_M → Option (Int32 × j_M)} (hkb2 : ∀ (x1 : Int32) (x2 : Int32) (I : j_M) (r : Int32 × j_M), kb2 x1 x2 I = some r → j_W p l e R s m args below meth c 3 g b n 0 0 (j_Qi g b n P below args s r) I P 2 [some (.ref (b + 215)), some (.int x1), some (.int x2)] []) {x1 : Int32} {x2 : Int32} {I : j_M} {r : Int32 × j_M}  (h : f_M_whoIn_2b F kb2 x1 x2 I = some r) : j_W p l e R s m args below meth c 3 g b n 0 0 (j_Qi g b n P below args s r) I P 2 [some (.ref (b + 215)), some (.int x1), some (.int x2)] [] := by
  unfold f_M_whoIn_2b at h
  refine j_iload_n X jd_M_whoIn_2 rfl rfl ?_
  refine j_aload_n X jd_M_whoIn_3 rfl rfl ?_
  refine j_get X jf_M_180 jk_12_12 js_215 (j_lt rfl hn) jd_M_whoIn_4 ?_
  refine j_icmp_ge (tgt := 28) X jd_M_whoIn_7 rfl h (fun h => ?_) (fun h => ?_)
  · refine j_bipush (v := (-2)) X jd_M_whoIn_28 (by decide) ?_
    exact j_iret X rfl jd_M_whoIn_30 h
  · refine j_aload_n X jd_M_whoIn_10 rfl rfl ?_
    refine j_getr X jf_M_47 jk_12_18 js_215 (j_lt rfl hn) (jp_215_18 hF) jd_M_whoIn_11 ?_
    refine j_iload_n X jd_M_whoIn_14 rfl rfl ?_
    refine j_iald X js_228 (j_lt rfl hn) jd_M_whoIn_15 h (fun _ h => ?_)
    refine j_iload_n X jd_M_whoIn_16 rfl rfl ?_
    refine j_icmp_ne (tgt := 22) X jd_M_whoIn_17 rfl h (fun h => ?_) (fun h => ?_)
    · refine j_iload_n X jd_M_whoIn_20 rfl rfl ?_
      exact j_iret X rfl jd_M_whoIn_21 h
    · obtain ⟨v1, ev1, h⟩ := j_ex h
      refine j_iinc (v := v1) (lv' := [some (.ref (b + 215)), some (.int x1), some (.int v1)]) X jd_M_whoIn_22 rfl (by rw [ev1]; rfl) (by decide) rfl ?_
      refine j_goto (tgt := 2) X jd_M_whoIn_25 rfl ?_
      exact hkb2 _ _ _ _ h
set_option maxRecDepth 100000 in
set_option maxHeartbeats 4000000 in
theorem k_M_whoIn_2 {p : Program} {l : Launch} {e : Env} {R : Room} {s : State} {m : MethodId} {args : Array Value} {below : List Frame} {meth : Method} {c : Code} {g : j_G} {b n : Nat} {P : j_R} {F : Nat} (hF : j_Fx 0 260 P) (hn : 260 ≤ n) (X : j_X p R s m args meth c g b 0 jb_M_whoIn 3 "PleasureGardenModel" (some .int))  {x1 : Int32} {x2 : Int32} {I : j_M} {r : Int32 × j_M} (h : f_M_whoIn_2 F x1 x2 I = some r) : j_W p l e R s m args below meth c 3 g b n 0 0 (j_Qi g b n P below args s r) I P 2 [some (.ref (b + 215)), some (.int x1), some (.int x2)] [] := by
  refine j_loop (G := fun (q : Int32 × Int32 × j_M) (r : Int32 × j_M) => j_W p l e R s m args below meth c 3 g b n 0 0 (j_Qi g b n P below args s r) q.2.2 P 2 [some (.ref (b + 215)), some (.int (q.1)), some (.int (q.2.1))] []) ?_ F (x1, x2, I) r h
  intro again hrec0 q r h
  exact k_M_whoIn_2b hF hn X (fun x1 x2 I r h => hrec0 (x1, x2, I) r h)  h
set_option maxRecDepth 100000 in
set_option maxHeartbeats 4000000 in
theorem k_M_whoIn {l : Launch} {g : j_G} {b n : Nat} {P : j_R} {F : Nat} (hF : j_Fx 0 260 P) (hn : 260 ≤ n) {x1 : Int32} {I : j_M} {r : Int32 × j_M}  (h : f_M_whoIn F x1 I = some r) : j_Met l g b n P 0 jy_M_whoIn jb_M_whoIn 3 (some .int) [.ref (b + 215), .int x1] I r.2 (some (.int r.1)) := by
  unfold f_M_whoIn at h
  refine j_enter (plainFor_of_name (by decide)) (Nat.le_of_ble_eq_true rfl) [some (.ref (b + 215)), some (.int x1), none] rfl ?_
  intro p e R s m args below meth c X0 hnm hRc hRs
  have X : j_X p R s m args meth c g b 0 jb_M_whoIn 3 "PleasureGardenModel" (some .int) := X0
  clear X0
  refine j_iconst (v := 0) X jd_M_whoIn_0 (by decide) ?_
  refine j_istore_n (lv' := [some (.ref (b + 215)), some (.int x1), some (.int 0)]) X jd_M_whoIn_1 rfl (by decide) rfl ?_
  exact k_M_whoIn_2 hF hn X h
-- PleasureGardenModel.shift(II)V
theorem jd_M_shift_0 : decode jb_M_shift 0 = .ok (.aload_n 0, 1) := by decide +kernel
theorem jd_M_shift_1 : decode jb_M_shift 1 = .ok (.getfield 98, 3) := by decide +kernel
theorem jd_M_shift_4 : decode jb_M_shift 4 = .ok (.iload_n 2, 1) := by decide +kernel
theorem jd_M_shift_5 : decode jb_M_shift 5 = .ok (.aload_n 0, 1) := by decide +kernel
theorem jd_M_shift_6 : decode jb_M_shift 6 = .ok (.getfield 98, 3) := by decide +kernel
theorem jd_M_shift_9 : decode jb_M_shift 9 = .ok (.iload_n 1, 1) := by decide +kernel
theorem jd_M_shift_10 : decode jb_M_shift 10 = .ok (.iaload, 1) := by decide +kernel
theorem jd_M_shift_11 : decode jb_M_shift 11 = .ok (.iastore, 1) := by decide +kernel
theorem jd_M_shift_12 : decode jb_M_shift 12 = .ok (.aload_n 0, 1) := by decide +kernel
theorem jd_M_shift_13 : decode jb_M_shift 13 = .ok (.getfield 101, 3) := by decide +kernel
theorem jd_M_shift_16 : decode jb_M_shift 16 = .ok (.iload_n 2, 1) := by decide +kernel
theorem jd_M_shift_17 : decode jb_M_shift 17 = .ok (.aload_n 0, 1) := by decide +kernel
theorem jd_M_shift_18 : decode jb_M_shift 18 = .ok (.getfield 101, 3) := by decide +kernel
theorem jd_M_shift_21 : decode jb_M_shift 21 = .ok (.iload_n 1, 1) := by decide +kernel
theorem jd_M_shift_22 : decode jb_M_shift 22 = .ok (.iaload, 1) := by decide +kernel
theorem jd_M_shift_23 : decode jb_M_shift 23 = .ok (.iastore, 1) := by decide +kernel
theorem jd_M_shift_24 : decode jb_M_shift 24 = .ok (.aload_n 0, 1) := by decide +kernel
theorem jd_M_shift_25 : decode jb_M_shift 25 = .ok (.getfield 104, 3) := by decide +kernel
theorem jd_M_shift_28 : decode jb_M_shift 28 = .ok (.iload_n 2, 1) := by decide +kernel
theorem jd_M_shift_29 : decode jb_M_shift 29 = .ok (.aload_n 0, 1) := by decide +kernel
theorem jd_M_shift_30 : decode jb_M_shift 30 = .ok (.getfield 104, 3) := by decide +kernel
theorem jd_M_shift_33 : decode jb_M_shift 33 = .ok (.iload_n 1, 1) := by decide +kernel
theorem jd_M_shift_34 : decode jb_M_shift 34 = .ok (.baload, 1) := by decide +kernel
theorem jd_M_shift_35 : decode jb_M_shift 35 = .ok (.bastore, 1) := by decide +kernel
theorem jd_M_shift_36 : decode jb_M_shift 36 = .ok (.return_, 1) := by decide +kernel
def f_M_shift (F : Nat) (x1 : Int32) (x2 : Int32) (I : j_M) : Option (Int32 × j_M) := (if j_ok x1 60 = true then (if j_ok x2 60 = true then j_let (j_wr I 242 (j_ix x2) (I 242 (j_ix x1))) (fun I1 => (if j_ok x1 60 = true then (if j_ok x2 60 = true then j_let (j_wr I1 243 (j_ix x2) (I1 243 (j_ix x1))) (fun I2 => (if j_ok x1 60 = true then (if j_ok x2 60 = true then j_let (j_wr I2 244 (j_ix x2) ((I2 244 (j_ix x1)) &&& 1)) (fun I3 => some (0, I3)) else none) else none)) else none) else none)) else none) else none)
set_option maxRecDepth 100000 in
set_option maxHeartbeats 4000000 in
theorem k_M_shift {l : Launch} {g : j_G} {b n : Nat} {P : j_R} {F : Nat} (hF : j_Fx 0 260 P) (hn : 260 ≤ n) {x1 : Int32} {x2 : Int32} {I : j_M} {r : Int32 × j_M}  (h : f_M_shift F x1 x2 I = some r) : j_Met l g b n P 0 jy_M_shift jb_M_shift 3 none [.ref (b + 215), .int x1, .int x2] I r.2 none := by
  unfold f_M_shift at h
  refine j_enter (plainFor_of_name (by decide)) (Nat.le_of_ble_eq_true rfl) [some (.ref (b + 215)), some (.int x1), some (.int x2)] rfl ?_
  intro p e R s m args below meth c X0 hnm hRc hRs
  have X : j_X p R s m args meth c g b 0 jb_M_shift 3 "PleasureGardenModel" none := X0
  clear X0
  refine j_aload_n X jd_M_shift_0 rfl rfl ?_
  refine j_getr X jf_M_98 jk_12_47 js_215 (j_lt rfl hn) (jp_215_47 hF) jd_M_shift_1 ?_
  refine j_iload_n X jd_M_shift_4 rfl rfl ?_
  refine j_aload_n X jd_M_shift_5 rfl rfl ?_
  refine j_getr X jf_M_98 jk_12_47 js_215 (j_lt rfl hn) (jp_215_47 hF) jd_M_shift_6 ?_
  refine j_iload_n X jd_M_shift_9 rfl rfl ?_
  refine j_iald X js_242 (j_lt rfl hn) jd_M_shift_10 h (fun _ h => ?_)
  refine j_iast X js_242 (j_lt rfl hn) jd_M_shift_11 h (fun h => ?_)
  refine j_mem h (fun I1 h => ?_)
  refine j_aload_n X jd_M_shift_12 rfl rfl ?_
  refine j_getr X jf_M_101 jk_12_48 js_215 (j_lt rfl hn) (jp_215_48 hF) jd_M_shift_13 ?_
  refine j_iload_n X jd_M_shift_16 rfl rfl ?_
  refine j_aload_n X jd_M_shift_17 rfl rfl ?_
  refine j_getr X jf_M_101 jk_12_48 js_215 (j_lt rfl hn) (jp_215_48 hF) jd_M_shift_18 ?_
  refine j_iload_n X jd_M_shift_21 rfl rfl ?_
  refine j_iald X js_243 (j_lt rfl hn) jd_M_shift_22 h (fun _ h => ?_)
  refine j_iast X js_243 (j_lt rfl hn) jd_M_shift_23 h (fun h => ?_)
  refine j_mem h (fun I2 h => ?_)
  refine j_aload_n X jd_M_shift_24 rfl rfl ?_
  refine j_getr X jf_M_104 jk_12_49 js_215 (j_lt rfl hn) (jp_215_49 hF) jd_M_shift_25 ?_
  refine j_iload_n X jd_M_shift_28 rfl rfl ?_
  refine j_aload_n X jd_M_shift_29 rfl rfl ?_
  refine j_getr X jf_M_104 jk_12_49 js_215 (j_lt rfl hn) (jp_215_49 hF) jd_M_shift_30 ?_
  refine j_iload_n X jd_M_shift_33 rfl rfl ?_
  refine j_zald X js_244 (j_lt rfl hn) jd_M_shift_34 h (fun _ h => ?_)
  refine j_zast X js_244 (j_lt rfl hn) jd_M_shift_35 h (fun h => ?_)
  refine j_mem h (fun I3 h => ?_)
  exact j_vret X rfl jd_M_shift_36 h
-- PleasureGardenModel.isName(I)Z
theorem jd_M_isName_0 : decode jb_M_isName 0 = .ok (.iload_n 0, 1) := by decide +kernel
theorem jd_M_isName_1 : decode jb_M_isName 1 = .ok (.bipush 112, 2) := by decide +kernel
theorem jd_M_isName_3 : decode jb_M_isName 3 = .ok (.if_icmp .eq 45, 3) := by decide +kernel
theorem jd_M_isName_6 : decode jb_M_isName 6 = .ok (.iload_n 0, 1) := by decide +kernel
theorem jd_M_isName_7 : decode jb_M_isName 7 = .ok (.bipush 109, 2) := by decide +kernel
theorem jd_M_isName_9 : decode jb_M_isName 9 = .ok (.if_icmp .eq 39, 3) := by decide +kernel
theorem jd_M_isName_12 : decode jb_M_isName 12 = .ok (.iload_n 0, 1) := by decide +kernel
theorem jd_M_isName_13 : decode jb_M_isName 13 = .ok (.bipush 114, 2) := by decide +kernel
theorem jd_M_isName_15 : decode jb_M_isName 15 = .ok (.if_icmp .eq 33, 3) := by decide +kernel
theorem jd_M_isName_18 : decode jb_M_isName 18 = .ok (.iload_n 0, 1) := by decide +kernel
theorem jd_M_isName_19 : decode jb_M_isName 19 = .ok (.bipush 110, 2) := by decide +kernel
theorem jd_M_isName_21 : decode jb_M_isName 21 = .ok (.if_icmp .eq 27, 3) := by decide +kernel
theorem jd_M_isName_24 : decode jb_M_isName 24 = .ok (.iload_n 0, 1) := by decide +kernel
theorem jd_M_isName_25 : decode jb_M_isName 25 = .ok (.bipush 103, 2) := by decide +kernel
theorem jd_M_isName_27 : decode jb_M_isName 27 = .ok (.if_icmp .eq 21, 3) := by decide +kernel
theorem jd_M_isName_30 : decode jb_M_isName 30 = .ok (.iload_n 0, 1) := by decide +kernel
theorem jd_M_isName_31 : decode jb_M_isName 31 = .ok (.bipush 115, 2) := by decide +kernel
theorem jd_M_isName_33 : decode jb_M_isName 33 = .ok (.if_icmp .eq 15, 3) := by decide +kernel
theorem jd_M_isName_36 : decode jb_M_isName 36 = .ok (.iload_n 0, 1) := by decide +kernel
theorem jd_M_isName_37 : decode jb_M_isName 37 = .ok (.bipush 99, 2) := by decide +kernel
theorem jd_M_isName_39 : decode jb_M_isName 39 = .ok (.if_icmp .eq 9, 3) := by decide +kernel
theorem jd_M_isName_42 : decode jb_M_isName 42 = .ok (.iload_n 0, 1) := by decide +kernel
theorem jd_M_isName_43 : decode jb_M_isName 43 = .ok (.bipush 116, 2) := by decide +kernel
theorem jd_M_isName_45 : decode jb_M_isName 45 = .ok (.if_icmp .ne 7, 3) := by decide +kernel
theorem jd_M_isName_48 : decode jb_M_isName 48 = .ok (.iconst 1, 1) := by decide +kernel
theorem jd_M_isName_49 : decode jb_M_isName 49 = .ok (.goto 4, 3) := by decide +kernel
theorem jd_M_isName_52 : decode jb_M_isName 52 = .ok (.iconst 0, 1) := by decide +kernel
theorem jd_M_isName_53 : decode jb_M_isName 53 = .ok (.ireturn, 1) := by decide +kernel
def f_M_isName (F : Nat) (x0 : Int32) (I : j_M) : Option (Int32 × j_M) := (if x0 = 112 then some (1, I) else (if x0 = 109 then some (1, I) else (if x0 = 114 then some (1, I) else (if x0 = 110 then some (1, I) else (if x0 = 103 then some (1, I) else (if x0 = 115 then some (1, I) else (if x0 = 99 then some (1, I) else (if x0 = 116 then some (1, I) else some (0, I)))))))))
set_option maxRecDepth 100000 in
set_option maxHeartbeats 4000000 in
theorem k_M_isName {l : Launch} {g : j_G} {b n : Nat} {P : j_R} {F : Nat} (hF : j_Fx 0 260 P) (hn : 260 ≤ n) {x0 : Int32} {I : j_M} {r : Int32 × j_M}  (h : f_M_isName F x0 I = some r) : j_Met l g b n P 0 jy_M_isName jb_M_isName 1 (some .boolean) [.int x0] I r.2 (some (.int r.1)) := by
  unfold f_M_isName at h
  refine j_enter (plainFor_of_name (by decide)) (Nat.le_of_ble_eq_true rfl) [some (.int x0)] rfl ?_
  intro p e R s m args below meth c X0 hnm hRc hRs
  have X : j_X p R s m args meth c g b 0 jb_M_isName 1 "PleasureGardenModel" (some .boolean) := X0
  clear X0
  refine j_iload_n X jd_M_isName_0 rfl rfl ?_
  refine j_bipush (v := 112) X jd_M_isName_1 (by decide) ?_
  refine j_icmp_eq (tgt := 48) X jd_M_isName_3 rfl h (fun h => ?_) (fun h => ?_)
  · refine j_iconst (v := 1) X jd_M_isName_48 (by decide) ?_
    refine j_goto (tgt := 53) X jd_M_isName_49 rfl ?_
    exact j_zret X rfl (by decide) jd_M_isName_53 h
  · refine j_iload_n X jd_M_isName_6 rfl rfl ?_
    refine j_bipush (v := 109) X jd_M_isName_7 (by decide) ?_
    refine j_icmp_eq (tgt := 48) X jd_M_isName_9 rfl h (fun h => ?_) (fun h => ?_)
    · refine j_iconst (v := 1) X jd_M_isName_48 (by decide) ?_
      refine j_goto (tgt := 53) X jd_M_isName_49 rfl ?_
      exact j_zret X rfl (by decide) jd_M_isName_53 h
    · refine j_iload_n X jd_M_isName_12 rfl rfl ?_
      refine j_bipush (v := 114) X jd_M_isName_13 (by decide) ?_
      refine j_icmp_eq (tgt := 48) X jd_M_isName_15 rfl h (fun h => ?_) (fun h => ?_)
      · refine j_iconst (v := 1) X jd_M_isName_48 (by decide) ?_
        refine j_goto (tgt := 53) X jd_M_isName_49 rfl ?_
        exact j_zret X rfl (by decide) jd_M_isName_53 h
      · refine j_iload_n X jd_M_isName_18 rfl rfl ?_
        refine j_bipush (v := 110) X jd_M_isName_19 (by decide) ?_
        refine j_icmp_eq (tgt := 48) X jd_M_isName_21 rfl h (fun h => ?_) (fun h => ?_)
        · refine j_iconst (v := 1) X jd_M_isName_48 (by decide) ?_
          refine j_goto (tgt := 53) X jd_M_isName_49 rfl ?_
          exact j_zret X rfl (by decide) jd_M_isName_53 h
        · refine j_iload_n X jd_M_isName_24 rfl rfl ?_
          refine j_bipush (v := 103) X jd_M_isName_25 (by decide) ?_
          refine j_icmp_eq (tgt := 48) X jd_M_isName_27 rfl h (fun h => ?_) (fun h => ?_)
          · refine j_iconst (v := 1) X jd_M_isName_48 (by decide) ?_
            refine j_goto (tgt := 53) X jd_M_isName_49 rfl ?_
            exact j_zret X rfl (by decide) jd_M_isName_53 h
          · refine j_iload_n X jd_M_isName_30 rfl rfl ?_
            refine j_bipush (v := 115) X jd_M_isName_31 (by decide) ?_
            refine j_icmp_eq (tgt := 48) X jd_M_isName_33 rfl h (fun h => ?_) (fun h => ?_)
            · refine j_iconst (v := 1) X jd_M_isName_48 (by decide) ?_
              refine j_goto (tgt := 53) X jd_M_isName_49 rfl ?_
              exact j_zret X rfl (by decide) jd_M_isName_53 h
            · refine j_iload_n X jd_M_isName_36 rfl rfl ?_
              refine j_bipush (v := 99) X jd_M_isName_37 (by decide) ?_
              refine j_icmp_eq (tgt := 48) X jd_M_isName_39 rfl h (fun h => ?_) (fun h => ?_)
              · refine j_iconst (v := 1) X jd_M_isName_48 (by decide) ?_
                refine j_goto (tgt := 53) X jd_M_isName_49 rfl ?_
                exact j_zret X rfl (by decide) jd_M_isName_53 h
              · refine j_iload_n X jd_M_isName_42 rfl rfl ?_
                refine j_bipush (v := 116) X jd_M_isName_43 (by decide) ?_
                refine j_icmp_ne (tgt := 52) X jd_M_isName_45 rfl h (fun h => ?_) (fun h => ?_)
                · refine j_iconst (v := 1) X jd_M_isName_48 (by decide) ?_
                  refine j_goto (tgt := 53) X jd_M_isName_49 rfl ?_
                  exact j_zret X rfl (by decide) jd_M_isName_53 h
                · refine j_iconst (v := 0) X jd_M_isName_52 (by decide) ?_
                  exact j_zret X rfl (by decide) jd_M_isName_53 h
-- PleasureGardenModel.signOf(I)I
theorem jd_M_signOf_0 : decode jb_M_signOf 0 = .ok (.iload_n 0, 1) := by decide +kernel
theorem jd_M_signOf_1 : decode jb_M_signOf 1 = .ok (.tableswitch 120 42 62 #[114, 108, 120, 111, 120, 117, 120, 120, 120, 120, 120, 120, 120, 120, 120, 120, 120, 120, 99, 102, 105], 99) := by decide +kernel
theorem jd_M_signOf_100 : decode jb_M_signOf 100 = .ok (.bipush 40, 2) := by decide +kernel
theorem jd_M_signOf_102 : decode jb_M_signOf 102 = .ok (.ireturn, 1) := by decide +kernel
theorem jd_M_signOf_103 : decode jb_M_signOf 103 = .ok (.bipush 41, 2) := by decide +kernel
theorem jd_M_signOf_105 : decode jb_M_signOf 105 = .ok (.ireturn, 1) := by decide +kernel
theorem jd_M_signOf_106 : decode jb_M_signOf 106 = .ok (.bipush 42, 2) := by decide +kernel
theorem jd_M_signOf_108 : decode jb_M_signOf 108 = .ok (.ireturn, 1) := by decide +kernel
theorem jd_M_signOf_109 : decode jb_M_signOf 109 = .ok (.bipush 50, 2) := by decide +kernel
theorem jd_M_signOf_111 : decode jb_M_signOf 111 = .ok (.ireturn, 1) := by decide +kernel
theorem jd_M_signOf_112 : decode jb_M_signOf 112 = .ok (.bipush 51, 2) := by decide +kernel
theorem jd_M_signOf_114 : decode jb_M_signOf 114 = .ok (.ireturn, 1) := by decide +kernel
theorem jd_M_signOf_115 : decode jb_M_signOf 115 = .ok (.bipush 60, 2) := by decide +kernel
theorem jd_M_signOf_117 : decode jb_M_signOf 117 = .ok (.ireturn, 1) := by decide +kernel
theorem jd_M_signOf_118 : decode jb_M_signOf 118 = .ok (.bipush 61, 2) := by decide +kernel
theorem jd_M_signOf_120 : decode jb_M_signOf 120 = .ok (.ireturn, 1) := by decide +kernel
theorem jd_M_signOf_121 : decode jb_M_signOf 121 = .ok (.iconst 0, 1) := by decide +kernel
theorem jd_M_signOf_122 : decode jb_M_signOf 122 = .ok (.ireturn, 1) := by decide +kernel
def f_M_signOf (F : Nat) (x0 : Int32) (I : j_M) : Option (Int32 × j_M) := (if x0 = 42 then some (60, I) else (if x0 = 43 then some (50, I) else (if x0 = 45 then some (51, I) else (if x0 = 47 then some (61, I) else (if x0 = 60 then some (40, I) else (if x0 = 61 then some (41, I) else (if x0 = 62 then some (42, I) else some (0, I))))))))
set_option maxRecDepth 100000 in
set_option maxHeartbeats 4000000 in
theorem k_M_signOf {l : Launch} {g : j_G} {b n : Nat} {P : j_R} {F : Nat} (hF : j_Fx 0 260 P) (hn : 260 ≤ n) {x0 : Int32} {I : j_M} {r : Int32 × j_M}  (h : f_M_signOf F x0 I = some r) : j_Met l g b n P 0 jy_M_signOf jb_M_signOf 1 (some .int) [.int x0] I r.2 (some (.int r.1)) := by
  unfold f_M_signOf at h
  refine j_enter (plainFor_of_name (by decide)) (Nat.le_of_ble_eq_true rfl) [some (.int x0)] rfl ?_
  intro p e R s m args below meth c X0 hnm hRc hRs
  have X : j_X p R s m args meth c g b 0 jb_M_signOf 1 "PleasureGardenModel" (some .int) := X0
  clear X0
  refine j_iload_n X jd_M_signOf_0 rfl rfl ?_
  refine j_ite h (fun e1 h => ?_) (fun e1 h => ?_)
  · refine j_tableIn (tgt := 115) (off := 114) X jd_M_signOf_1 e1 (by decide) (by decide) (by decide) rfl ?_
    refine j_bipush (v := 60) X jd_M_signOf_115 (by decide) ?_
    exact j_iret X rfl jd_M_signOf_117 h
  · refine j_ite h (fun e2 h => ?_) (fun e2 h => ?_)
    · refine j_tableIn (tgt := 109) (off := 108) X jd_M_signOf_1 e2 (by decide) (by decide) (by decide) rfl ?_
      refine j_bipush (v := 50) X jd_M_signOf_109 (by decide) ?_
      exact j_iret X rfl jd_M_signOf_111 h
    · refine j_ite h (fun e3 h => ?_) (fun e3 h => ?_)
      · refine j_tableIn (tgt := 112) (off := 111) X jd_M_signOf_1 e3 (by decide) (by decide) (by decide) rfl ?_
        refine j_bipush (v := 51) X jd_M_signOf_112 (by decide) ?_
        exact j_iret X rfl jd_M_signOf_114 h
      · refine j_ite h (fun e4 h => ?_) (fun e4 h => ?_)
        · refine j_tableIn (tgt := 118) (off := 117) X jd_M_signOf_1 e4 (by decide) (by decide) (by decide) rfl ?_
          refine j_bipush (v := 61) X jd_M_signOf_118 (by decide) ?_
          exact j_iret X rfl jd_M_signOf_120 h
        · refine j_ite h (fun e5 h => ?_) (fun e5 h => ?_)
          · refine j_tableIn (tgt := 100) (off := 99) X jd_M_signOf_1 e5 (by decide) (by decide) (by decide) rfl ?_
            refine j_bipush (v := 40) X jd_M_signOf_100 (by decide) ?_
            exact j_iret X rfl jd_M_signOf_102 h
          · refine j_ite h (fun e6 h => ?_) (fun e6 h => ?_)
            · refine j_tableIn (tgt := 103) (off := 102) X jd_M_signOf_1 e6 (by decide) (by decide) (by decide) rfl ?_
              refine j_bipush (v := 41) X jd_M_signOf_103 (by decide) ?_
              exact j_iret X rfl jd_M_signOf_105 h
            · refine j_ite h (fun e7 h => ?_) (fun e7 h => ?_)
              · refine j_tableIn (tgt := 106) (off := 105) X jd_M_signOf_1 e7 (by decide) (by decide) (by decide) rfl ?_
                refine j_bipush (v := 42) X jd_M_signOf_106 (by decide) ?_
                exact j_iret X rfl jd_M_signOf_108 h
              · refine j_tableDef (tgt := 121) X [42, 43, 45, 47, 60, 61, 62] jd_M_signOf_1 (j_allc e1 (j_allc e2 (j_allc e3 (j_allc e4 (j_allc e5 (j_allc e6 (j_allc e7 j_all0))))))) (by decide) (by decide) (by decide) (by decide) rfl ?_
                refine j_iconst (v := 0) X jd_M_signOf_121 (by decide) ?_
                exact j_iret X rfl jd_M_signOf_122 h
-- PleasureGardenModel.tight(I)I
theorem jd_M_tight_0 : decode jb_M_tight 0 = .ok (.iload_n 0, 1) := by decide +kernel
theorem jd_M_tight_1 : decode jb_M_tight 1 = .ok (.bipush 10, 2) := by decide +kernel
theorem jd_M_tight_3 : decode jb_M_tight 3 = .ok (.idiv, 1) := by decide +kernel
theorem jd_M_tight_4 : decode jb_M_tight 4 = .ok (.ireturn, 1) := by decide +kernel
def f_M_tight (F : Nat) (x0 : Int32) (I : j_M) : Option (Int32 × j_M) := (if 10 = 0 then none else some (x0 / 10, I))
set_option maxRecDepth 100000 in
set_option maxHeartbeats 4000000 in
theorem k_M_tight {l : Launch} {g : j_G} {b n : Nat} {P : j_R} {F : Nat} (hF : j_Fx 0 260 P) (hn : 260 ≤ n) {x0 : Int32} {I : j_M} {r : Int32 × j_M}  (h : f_M_tight F x0 I = some r) : j_Met l g b n P 0 jy_M_tight jb_M_tight 1 (some .int) [.int x0] I r.2 (some (.int r.1)) := by
  unfold f_M_tight at h
  refine j_enter (plainFor_of_name (by decide)) (Nat.le_of_ble_eq_true rfl) [some (.int x0)] rfl ?_
  intro p e R s m args below meth c X0 hnm hRc hRs
  have X : j_X p R s m args meth c g b 0 jb_M_tight 1 "PleasureGardenModel" (some .int) := X0
  clear X0
  refine j_iload_n X jd_M_tight_0 rfl rfl ?_
  refine j_bipush (v := 10) X jd_M_tight_1 (by decide) ?_
  refine j_idiv X jd_M_tight_3 h (fun h => ?_)
  exact j_iret X rfl jd_M_tight_4 h
-- PleasureGardenModel.lay(III)V
theorem jd_M_lay_0 : decode jb_M_lay 0 = .ok (.aload_n 0, 1) := by decide +kernel
theorem jd_M_lay_1 : decode jb_M_lay 1 = .ok (.getfield 122, 3) := by decide +kernel
theorem jd_M_lay_4 : decode jb_M_lay 4 = .ok (.sipush 130, 3) := by decide +kernel
theorem jd_M_lay_7 : decode jb_M_lay 7 = .ok (.iload_n 1, 1) := by decide +kernel
theorem jd_M_lay_8 : decode jb_M_lay 8 = .ok (.imul, 1) := by decide +kernel
theorem jd_M_lay_9 : decode jb_M_lay 9 = .ok (.aload_n 0, 1) := by decide +kernel
theorem jd_M_lay_10 : decode jb_M_lay 10 = .ok (.getfield 276, 3) := by decide +kernel
theorem jd_M_lay_13 : decode jb_M_lay 13 = .ok (.iadd, 1) := by decide +kernel
theorem jd_M_lay_14 : decode jb_M_lay 14 = .ok (.iload_n 2, 1) := by decide +kernel
theorem jd_M_lay_15 : decode jb_M_lay 15 = .ok (.iastore, 1) := by decide +kernel
theorem jd_M_lay_16 : decode jb_M_lay 16 = .ok (.aload_n 0, 1) := by decide +kernel
theorem jd_M_lay_17 : decode jb_M_lay 17 = .ok (.getfield 125, 3) := by decide +kernel
theorem jd_M_lay_20 : decode jb_M_lay 20 = .ok (.sipush 130, 3) := by decide +kernel
theorem jd_M_lay_23 : decode jb_M_lay 23 = .ok (.iload_n 1, 1) := by decide +kernel
theorem jd_M_lay_24 : decode jb_M_lay 24 = .ok (.imul, 1) := by decide +kernel
theorem jd_M_lay_25 : decode jb_M_lay 25 = .ok (.aload_n 0, 1) := by decide +kernel
theorem jd_M_lay_26 : decode jb_M_lay 26 = .ok (.getfield 276, 3) := by decide +kernel
theorem jd_M_lay_29 : decode jb_M_lay 29 = .ok (.iadd, 1) := by decide +kernel
theorem jd_M_lay_30 : decode jb_M_lay 30 = .ok (.iload_n 3, 1) := by decide +kernel
theorem jd_M_lay_31 : decode jb_M_lay 31 = .ok (.iastore, 1) := by decide +kernel
theorem jd_M_lay_32 : decode jb_M_lay 32 = .ok (.aload_n 0, 1) := by decide +kernel
theorem jd_M_lay_33 : decode jb_M_lay 33 = .ok (.dup, 1) := by decide +kernel
theorem jd_M_lay_34 : decode jb_M_lay 34 = .ok (.getfield 276, 3) := by decide +kernel
theorem jd_M_lay_37 : decode jb_M_lay 37 = .ok (.iconst 1, 1) := by decide +kernel
theorem jd_M_lay_38 : decode jb_M_lay 38 = .ok (.iadd, 1) := by decide +kernel
theorem jd_M_lay_39 : decode jb_M_lay 39 = .ok (.putfield 276, 3) := by decide +kernel
theorem jd_M_lay_42 : decode jb_M_lay 42 = .ok (.return_, 1) := by decide +kernel
def f_M_lay (F : Nat) (x1 : Int32) (x2 : Int32) (x3 : Int32) (I : j_M) : Option (Int32 × j_M) := (if j_ok ((130 * x1) + (I 215 61)) 3900 = true then j_let (j_wr I 250 (j_ix ((130 * x1) + (I 215 61))) x2) (fun I1 => (if j_ok ((130 * x1) + (I1 215 61)) 3900 = true then j_let (j_wr I1 251 (j_ix ((130 * x1) + (I1 215 61))) x3) (fun I2 => j_let (j_wr I2 215 61 ((I2 215 61) + 1)) (fun I3 => some (0, I3))) else none)) else none)
set_option maxRecDepth 100000 in
set_option maxHeartbeats 4000000 in
theorem k_M_lay {l : Launch} {g : j_G} {b n : Nat} {P : j_R} {F : Nat} (hF : j_Fx 0 260 P) (hn : 260 ≤ n) {x1 : Int32} {x2 : Int32} {x3 : Int32} {I : j_M} {r : Int32 × j_M}  (h : f_M_lay F x1 x2 x3 I = some r) : j_Met l g b n P 0 jy_M_lay jb_M_lay 4 none [.ref (b + 215), .int x1, .int x2, .int x3] I r.2 none := by
  unfold f_M_lay at h
  refine j_enter (plainFor_of_name (by decide)) (Nat.le_of_ble_eq_true rfl) [some (.ref (b + 215)), some (.int x1), some (.int x2), some (.int x3)] rfl ?_
  intro p e R s m args below meth c X0 hnm hRc hRs
  have X : j_X p R s m args meth c g b 0 jb_M_lay 4 "PleasureGardenModel" none := X0
  clear X0
  refine j_aload_n X jd_M_lay_0 rfl rfl ?_
  refine j_getr X jf_M_122 jk_12_57 js_215 (j_lt rfl hn) (jp_215_57 hF) jd_M_lay_1 ?_
  refine j_sipush (v := 130) X jd_M_lay_4 (by decide) ?_
  refine j_iload_n X jd_M_lay_7 rfl rfl ?_
  refine j_imul X jd_M_lay_8 ?_
  refine j_aload_n X jd_M_lay_9 rfl rfl ?_
  refine j_get X jf_M_276 jk_12_61 js_215 (j_lt rfl hn) jd_M_lay_10 ?_
  refine j_iadd X jd_M_lay_13 ?_
  refine j_iload_n X jd_M_lay_14 rfl rfl ?_
  refine j_iast X js_250 (j_lt rfl hn) jd_M_lay_15 h (fun h => ?_)
  refine j_mem h (fun I1 h => ?_)
  refine j_aload_n X jd_M_lay_16 rfl rfl ?_
  refine j_getr X jf_M_125 jk_12_58 js_215 (j_lt rfl hn) (jp_215_58 hF) jd_M_lay_17 ?_
  refine j_sipush (v := 130) X jd_M_lay_20 (by decide) ?_
  refine j_iload_n X jd_M_lay_23 rfl rfl ?_
  refine j_imul X jd_M_lay_24 ?_
  refine j_aload_n X jd_M_lay_25 rfl rfl ?_
  refine j_get X jf_M_276 jk_12_61 js_215 (j_lt rfl hn) jd_M_lay_26 ?_
  refine j_iadd X jd_M_lay_29 ?_
  refine j_iload_n X jd_M_lay_30 rfl rfl ?_
  refine j_iast X js_251 (j_lt rfl hn) jd_M_lay_31 h (fun h => ?_)
  refine j_mem h (fun I2 h => ?_)
  refine j_aload_n X jd_M_lay_32 rfl rfl ?_
  refine j_dup X jd_M_lay_33 rfl ?_
  refine j_get X jf_M_276 jk_12_61 js_215 (j_lt rfl hn) jd_M_lay_34 ?_
  refine j_iconst (v := 1) X jd_M_lay_37 (by decide) ?_
  refine j_iadd X jd_M_lay_38 ?_
  refine j_puti X jt_M jto_M jn_M jf_M_276 jk_12_61 js_215 (j_lt rfl hn) (Or.inl rfl) rfl jd_M_lay_39 ?_
  refine j_mem h (fun I3 h => ?_)
  exact j_vret X rfl jd_M_lay_42 h
-- PleasureGardenModel.opened()I
theorem jd_M_opened_0 : decode jb_M_opened 0 = .ok (.iconst 0, 1) := by decide +kernel
theorem jd_M_opened_1 : decode jb_M_opened 1 = .ok (.istore_n 1, 1) := by decide +kernel
theorem jd_M_opened_2 : decode jb_M_opened 2 = .ok (.iconst 0, 1) := by decide +kernel
theorem jd_M_opened_3 : decode jb_M_opened 3 = .ok (.istore_n 2, 1) := by decide +kernel
theorem jd_M_opened_4 : decode jb_M_opened 4 = .ok (.iload_n 2, 1) := by decide +kernel
theorem jd_M_opened_5 : decode jb_M_opened 5 = .ok (.aload_n 0, 1) := by decide +kernel
theorem jd_M_opened_6 : decode jb_M_opened 6 = .ok (.getfield 279, 3) := by decide +kernel
theorem jd_M_opened_9 : decode jb_M_opened 9 = .ok (.if_icmp .ge 27, 3) := by decide +kernel
theorem jd_M_opened_12 : decode jb_M_opened 12 = .ok (.iload_n 1, 1) := by decide +kernel
theorem jd_M_opened_13 : decode jb_M_opened 13 = .ok (.aload_n 0, 1) := by decide +kernel
theorem jd_M_opened_14 : decode jb_M_opened 14 = .ok (.getfield 128, 3) := by decide +kernel
theorem jd_M_opened_17 : decode jb_M_opened 17 = .ok (.iload_n 2, 1) := by decide +kernel
theorem jd_M_opened_18 : decode jb_M_opened 18 = .ok (.iaload, 1) := by decide +kernel
theorem jd_M_opened_19 : decode jb_M_opened 19 = .ok (.iconst 4, 1) := by decide +kernel
theorem jd_M_opened_20 : decode jb_M_opened 20 = .ok (.if_icmp .ne 7, 3) := by decide +kernel
theorem jd_M_opened_23 : decode jb_M_opened 23 = .ok (.iconst 1, 1) := by decide +kernel
theorem jd_M_opened_24 : decode jb_M_opened 24 = .ok (.goto 4, 3) := by decide +kernel
theorem jd_M_opened_27 : decode jb_M_opened 27 = .ok (.iconst 0, 1) := by decide +kernel
theorem jd_M_opened_28 : decode jb_M_opened 28 = .ok (.iadd, 1) := by decide +kernel
theorem jd_M_opened_29 : decode jb_M_opened 29 = .ok (.istore_n 1, 1) := by decide +kernel
theorem jd_M_opened_30 : decode jb_M_opened 30 = .ok (.iinc 2 1, 3) := by decide +kernel
theorem jd_M_opened_33 : decode jb_M_opened 33 = .ok (.goto (-29), 3) := by decide +kernel
theorem jd_M_opened_36 : decode jb_M_opened 36 = .ok (.iload_n 1, 1) := by decide +kernel
theorem jd_M_opened_37 : decode jb_M_opened 37 = .ok (.ireturn, 1) := by decide +kernel
def f_M_opened_28 (F : Nat) (kb4 : Int32 → Int32 → j_M → Option (Int32 × j_M)) (x2 : Int32) (s0 : Int32) (s1 : Int32) (I : j_M) : Option (Int32 × j_M) := j_let (s0 + s1) (fun v1 => j_let (x2 + 1) (fun v2 => kb4 v1 v2 I))
def f_M_opened_4b (F : Nat) (kb4 : Int32 → Int32 → j_M → Option (Int32 × j_M)) (x1 : Int32) (x2 : Int32) (I : j_M) : Option (Int32 × j_M) := (if (I 215 60) ≤ x2 then some (x1, I) else (if j_ok x2 130 = true then (if (I 252 (j_ix x2)) = 4 then f_M_opened_28 F kb4 x2 x1 1 I else f_M_opened_28 F kb4 x2 x1 0 I) else none))
def f_M_opened_4 (F : Nat)  (x1 : Int32) (x2 : Int32) (I : j_M) : Option (Int32 × j_M) := j_it (fun (again : Int32 × Int32 × j_M → Option (Int32 × j_M)) (q : Int32 × Int32 × j_M) => f_M_opened_4b F  (fun x1 x2 I => again (x1, x2, I))  q.1 q.2.1 q.2.2) F (x1, x2, I)
def f_M_opened (F : Nat)  (I : j_M) : Option (Int32 × j_M) := f_M_opened_4 F 0 0 I
set_option maxRecDepth 100000 in
set_option maxHeartbeats 4000000 in
theorem k_M_opened_28 {p : Program} {l : Launch} {e : Env} {R : Room} {s : State} {m : MethodId} {args : Array Value} {below : List Frame} {meth : Method} {c : Code} {g : j_G} {b n : Nat} {P : j_R} {F : Nat} (hF : j_Fx 0 260 P) (hn : 260 ≤ n) (X : j_X p R s m args meth c g b 0 jb_M_opened 3 "PleasureGardenModel" (some .int)) {kb4 : Int32 → Int32 → j_M → Option (Int32 × j_M)} (hkb4 : ∀ (x1 : Int32) (x2 : Int32) (I : j_M) (r : Int32 × j_M), kb4 x1 x2 I = some r → j_W p l e R s m args below meth c 3 g b n 0 0 (j_Qi g b n P below args s r) I P 4 [some (.ref (b + 215)), some (.int x1), some (.int x2)] []) {x2 : Int32} {s0 : Int32} {s1 : Int32} {I : j_M} {r : Int32 × j_M}  (h : f_M_opened_28 F kb4 x2 s0 s1 I = some r) : j_W p l e R s m args below meth c 3 g b n 0 0 (j_Qi g b n P below args s r) I P 28 [some (.ref (b + 215)), none, some (.int x2)] [.int s1, .int s0] := by
  unfold f_M_opened_28 at h
  refine j_iadd X jd_M_opened_28 ?_
  refine j_nm h (fun v1 h => ?_)
  refine j_istore_n (lv' := [some (.ref (b + 215)), some (.int v1), some (.int x2)]) X jd_M_opened_29 rfl (by decide) rfl ?_
  obtain ⟨v2, ev2, h⟩ := j_ex h
  refine j_iinc (v := v2) (lv' := [some (.ref (b + 215)), some (.int v1), some (.int v2)]) X jd_M_opened_30 rfl (by rw [ev2]; rfl) (by decide) rfl ?_
  refine j_goto (tgt := 4) X jd_M_opened_33 rfl ?_
  exact hkb4 _ _ _ _ h
set_option maxRecDepth 100000 in
set_option maxHeartbeats 4000000 in
theorem k_M_opened_4b {p : Program} {l : Launch} {e : Env} {R : Room} {s : State} {m : MethodId} {args : Array Value} {below : List Frame} {meth : Method} {c : Code} {g : j_G} {b n : Nat} {P : j_R} {F : Nat} (hF : j_Fx 0 260 P) (hn : 260 ≤ n) (X : j_X p R s m args meth c g b 0 jb_M_opened 3 "PleasureGardenModel" (some .int)) {kb4 : Int32 → Int32 → j_M → Option (Int32 × j_M)} (hkb4 : ∀ (x1 : Int32) (x2 : Int32) (I : j_M) (r : Int32 × j_M), kb4 x1 x2 I = some r → j_W p l e R s m args below meth c 3 g b n 0 0 (j_Qi g b n P below args s r) I P 4 [some (.ref (b + 215)), some (.int x1), some (.int x2)] []) {x1 : Int32} {x2 : Int32} {I : j_M} {r : Int32 × j_M}  (h : f_M_opened_4b F kb4 x1 x2 I = some r) : j_W p l e R s m args below meth c 3 g b n 0 0 (j_Qi g b n P below args s r) I P 4 [some (.ref (b + 215)), some (.int x1), some (.int x2)] [] := by
  unfold f_M_opened_4b at h
  refine j_iload_n X jd_M_opened_4 rfl rfl ?_
  refine j_aload_n X jd_M_opened_5 rfl rfl ?_
  refine j_get X jf_M_279 jk_12_60 js_215 (j_lt rfl hn) jd_M_opened_6 ?_
  refine j_icmp_ge (tgt := 36) X jd_M_opened_9 rfl h (fun h => ?_) (fun h => ?_)
  · refine j_iload_n X jd_M_opened_36 rfl rfl ?_
    exact j_iret X rfl jd_M_opened_37 h
  · refine j_iload_n X jd_M_opened_12 rfl rfl ?_
    refine j_aload_n X jd_M_opened_13 rfl rfl ?_
    refine j_getr X jf_M_128 jk_12_59 js_215 (j_lt rfl hn) (jp_215_59 hF) jd_M_opened_14 ?_
    refine j_iload_n X jd_M_opened_17 rfl rfl ?_
    refine j_iald X js_252 (j_lt rfl hn) jd_M_opened_18 h (fun _ h => ?_)
    refine j_iconst (v := 4) X jd_M_opened_19 (by decide) ?_
    refine j_icmp_ne (tgt := 27) X jd_M_opened_20 rfl h (fun h => ?_) (fun h => ?_)
    · refine j_iconst (v := 1) X jd_M_opened_23 (by decide) ?_
      refine j_goto (tgt := 28) X jd_M_opened_24 rfl ?_
      refine j_sub [true, false, true] (lv' := [some (.ref (b + 215)), none, some (.int x2)]) rfl ?_
      exact k_M_opened_28 hF hn X hkb4 h
    · refine j_iconst (v := 0) X jd_M_opened_27 (by decide) ?_
      refine j_sub [true, false, true] (lv' := [some (.ref (b + 215)), none, some (.int x2)]) rfl ?_
      exact k_M_opened_28 hF hn X hkb4 h
set_option maxRecDepth 100000 in
set_option maxHeartbeats 4000000 in
theorem k_M_opened_4 {p : Program} {l : Launch} {e : Env} {R : Room} {s : State} {m : MethodId} {args : Array Value} {below : List Frame} {meth : Method} {c : Code} {g : j_G} {b n : Nat} {P : j_R} {F : Nat} (hF : j_Fx 0 260 P) (hn : 260 ≤ n) (X : j_X p R s m args meth c g b 0 jb_M_opened 3 "PleasureGardenModel" (some .int))  {x1 : Int32} {x2 : Int32} {I : j_M} {r : Int32 × j_M} (h : f_M_opened_4 F x1 x2 I = some r) : j_W p l e R s m args below meth c 3 g b n 0 0 (j_Qi g b n P below args s r) I P 4 [some (.ref (b + 215)), some (.int x1), some (.int x2)] [] := by
  refine j_loop (G := fun (q : Int32 × Int32 × j_M) (r : Int32 × j_M) => j_W p l e R s m args below meth c 3 g b n 0 0 (j_Qi g b n P below args s r) q.2.2 P 4 [some (.ref (b + 215)), some (.int (q.1)), some (.int (q.2.1))] []) ?_ F (x1, x2, I) r h
  intro again hrec0 q r h
  exact k_M_opened_4b hF hn X (fun x1 x2 I r h => hrec0 (x1, x2, I) r h)  h
set_option maxRecDepth 100000 in
set_option maxHeartbeats 4000000 in
theorem k_M_opened {l : Launch} {g : j_G} {b n : Nat} {P : j_R} {F : Nat} (hF : j_Fx 0 260 P) (hn : 260 ≤ n)  {I : j_M} {r : Int32 × j_M}  (h : f_M_opened F I = some r) : j_Met l g b n P 0 jy_M_opened jb_M_opened 3 (some .int) [.ref (b + 215)] I r.2 (some (.int r.1)) := by
  unfold f_M_opened at h
  refine j_enter (plainFor_of_name (by decide)) (Nat.le_of_ble_eq_true rfl) [some (.ref (b + 215)), none, none] rfl ?_
  intro p e R s m args below meth c X0 hnm hRc hRs
  have X : j_X p R s m args meth c g b 0 jb_M_opened 3 "PleasureGardenModel" (some .int) := X0
  clear X0
  refine j_iconst (v := 0) X jd_M_opened_0 (by decide) ?_
  refine j_istore_n (lv' := [some (.ref (b + 215)), some (.int 0), none]) X jd_M_opened_1 rfl (by decide) rfl ?_
  refine j_iconst (v := 0) X jd_M_opened_2 (by decide) ?_
  refine j_istore_n (lv' := [some (.ref (b + 215)), some (.int 0), some (.int 0)]) X jd_M_opened_3 rfl (by decide) rfl ?_
  exact k_M_opened_4 hF hn X h
-- PleasureGardenModel.forceOn(III)I
theorem jd_M_forceOn_0 : decode jb_M_forceOn 0 = .ok (.aload_n 0, 1) := by decide +kernel
theorem jd_M_forceOn_1 : decode jb_M_forceOn 1 = .ok (.getfield 310, 3) := by decide +kernel
theorem jd_M_forceOn_4 : decode jb_M_forceOn 4 = .ok (.iconst 1, 1) := by decide +kernel
theorem jd_M_forceOn_5 : decode jb_M_forceOn 5 = .ok (.isub, 1) := by decide +kernel
theorem jd_M_forceOn_6 : decode jb_M_forceOn 6 = .ok (.istore 4, 2) := by decide +kernel
theorem jd_M_forceOn_8 : decode jb_M_forceOn 8 = .ok (.iload 4, 2) := by decide +kernel
theorem jd_M_forceOn_10 : decode jb_M_forceOn 10 = .ok (.ifCond .lt 45, 3) := by decide +kernel
theorem jd_M_forceOn_13 : decode jb_M_forceOn 13 = .ok (.aload_n 0, 1) := by decide +kernel
theorem jd_M_forceOn_14 : decode jb_M_forceOn 14 = .ok (.getfield 110, 3) := by decide +kernel
theorem jd_M_forceOn_17 : decode jb_M_forceOn 17 = .ok (.iload 4, 2) := by decide +kernel
theorem jd_M_forceOn_19 : decode jb_M_forceOn 19 = .ok (.iaload, 1) := by decide +kernel
theorem jd_M_forceOn_20 : decode jb_M_forceOn 20 = .ok (.iload_n 1, 1) := by decide +kernel
theorem jd_M_forceOn_21 : decode jb_M_forceOn 21 = .ok (.if_icmp .ne 28, 3) := by decide +kernel
theorem jd_M_forceOn_24 : decode jb_M_forceOn 24 = .ok (.aload_n 0, 1) := by decide +kernel
theorem jd_M_forceOn_25 : decode jb_M_forceOn 25 = .ok (.getfield 113, 3) := by decide +kernel
theorem jd_M_forceOn_28 : decode jb_M_forceOn 28 = .ok (.iload 4, 2) := by decide +kernel
theorem jd_M_forceOn_30 : decode jb_M_forceOn 30 = .ok (.iaload, 1) := by decide +kernel
theorem jd_M_forceOn_31 : decode jb_M_forceOn 31 = .ok (.iload_n 3, 1) := by decide +kernel
theorem jd_M_forceOn_32 : decode jb_M_forceOn 32 = .ok (.if_icmp .gt 17, 3) := by decide +kernel
theorem jd_M_forceOn_35 : decode jb_M_forceOn 35 = .ok (.aload_n 0, 1) := by decide +kernel
theorem jd_M_forceOn_36 : decode jb_M_forceOn 36 = .ok (.getfield 116, 3) := by decide +kernel
theorem jd_M_forceOn_39 : decode jb_M_forceOn 39 = .ok (.iload 4, 2) := by decide +kernel
theorem jd_M_forceOn_41 : decode jb_M_forceOn 41 = .ok (.iaload, 1) := by decide +kernel
theorem jd_M_forceOn_42 : decode jb_M_forceOn 42 = .ok (.iload_n 2, 1) := by decide +kernel
theorem jd_M_forceOn_43 : decode jb_M_forceOn 43 = .ok (.if_icmp .gt 6, 3) := by decide +kernel
theorem jd_M_forceOn_46 : decode jb_M_forceOn 46 = .ok (.iload 4, 2) := by decide +kernel
theorem jd_M_forceOn_48 : decode jb_M_forceOn 48 = .ok (.ireturn, 1) := by decide +kernel
theorem jd_M_forceOn_49 : decode jb_M_forceOn 49 = .ok (.iinc 4 (-1), 3) := by decide +kernel
theorem jd_M_forceOn_52 : decode jb_M_forceOn 52 = .ok (.goto (-44), 3) := by decide +kernel
theorem jd_M_forceOn_55 : decode jb_M_forceOn 55 = .ok (.bipush (-2), 2) := by decide +kernel
theorem jd_M_forceOn_57 : decode jb_M_forceOn 57 = .ok (.ireturn, 1) := by decide +kernel
def f_M_forceOn_49 (F : Nat) (kb8 : Int32 → Int32 → Int32 → Int32 → j_M → Option (Int32 × j_M)) (x1 : Int32) (x2 : Int32) (x3 : Int32) (x4 : Int32) (I : j_M) : Option (Int32 × j_M) := j_let (x4 + (-1)) (fun v1 => kb8 x1 x2 x3 v1 I)
def f_M_forceOn_8b (F : Nat) (kb8 : Int32 → Int32 → Int32 → Int32 → j_M → Option (Int32 × j_M)) (x1 : Int32) (x2 : Int32) (x3 : Int32) (x4 : Int32) (I : j_M) : Option (Int32 × j_M) := (if x4 < 0 then some ((-2), I) else (if j_ok x4 30 = true then (if (I 246 (j_ix x4)) = x1 then (if j_ok x4 30 = true then (if x3 < (I 247 (j_ix x4)) then f_M_forceOn_49 F kb8 x1 x2 x3 x4 I else (if j_ok x4 30 = true then (if x2 < (I 248 (j_ix x4)) then f_M_forceOn_49 F kb8 x1 x2 x3 x4 I else some (x4, I)) else none)) else none) else f_M_forceOn_49 F kb8 x1 x2 x3 x4 I) else none))
def f_M_forceOn_8 (F : Nat)  (x1 : Int32) (x2 : Int32) (x3 : Int32) (x4 : Int32) (I : j_M) : Option (Int32 × j_M) := j_it (fun (again : Int32 × Int32 × Int32 × Int32 × j_M → Option (Int32 × j_M)) (q : Int32 × Int32 × Int32 × Int32 × j_M) => f_M_forceOn_8b F  (fun x1 x2 x3 x4 I => again (x1, x2, x3, x4, I))  q.1 q.2.1 q.2.2.1 q.2.2.2.1 q.2.2.2.2) F (x1, x2, x3, x4, I)
def f_M_forceOn (F : Nat) (x1 : Int32) (x2 : Int32) (x3 : Int32) (I : j_M) : Option (Int32 × j_M) := j_let ((I 215 52) - 1) (fun v2 => f_M_forceOn_8 F x1 x2 x3 v2 I)
set_option maxRecDepth 100000 in
set_option maxHeartbeats 4000000 in
theorem k_M_forceOn_49 {p : Program} {l : Launch} {e : Env} {R : Room} {s : State} {m : MethodId} {args : Array Value} {below : List Frame} {meth : Method} {c : Code} {g : j_G} {b n : Nat} {P : j_R} {F : Nat} (hF : j_Fx 0 260 P) (hn : 260 ≤ n) (X : j_X p R s m args meth c g b 0 jb_M_forceOn 5 "PleasureGardenModel" (some .int)) {kb8 : Int32 → Int32 → Int32 → Int32 → j_M → Option (Int32 × j_M)} (hkb8 : ∀ (x1 : Int32) (x2 : Int32) (x3 : Int32) (x4 : Int32) (I : j_M) (r : Int32 × j_M), kb8 x1 x2 x3 x4 I = some r → j_W p l e R s m args below meth c 5 g b n 0 0 (j_Qi g b n P below args s r) I P 8 [some (.ref (b + 215)), some (.int x1), some (.int x2), some (.int x3), some (.int x4)] []) {x1 : Int32} {x2 : Int32} {x3 : Int32} {x4 : Int32} {I : j_M} {r : Int32 × j_M}  (h : f_M_forceOn_49 F kb8 x1 x2 x3 x4 I = some r) : j_W p l e R s m args below meth c 5 g b n 0 0 (j_Qi g b n P below args s r) I P 49 [some (.ref (b + 215)), some (.int x1), some (.int x2), some (.int x3), some (.int x4)] [] := by
  unfold f_M_forceOn_49 at h
  obtain ⟨v1, ev1, h⟩ := j_ex h
  refine j_iinc (v := v1) (lv' := [some (.ref (b + 215)), some (.int x1), some (.int x2), some (.int x3), some (.int v1)]) X jd_M_forceOn_49 rfl (by rw [ev1]; rfl) (by decide) rfl ?_
  refine j_goto (tgt := 8) X jd_M_forceOn_52 rfl ?_
  exact hkb8 _ _ _ _ _ _ h
set_option maxRecDepth 100000 in
set_option maxHeartbeats 4000000 in
theorem k_M_forceOn_8b {p : Program} {l : Launch} {e : Env} {R : Room} {s : State} {m : MethodId} {args : Array Value} {below : List Frame} {meth : Method} {c : Code} {g : j_G} {b n : Nat} {P : j_R} {F : Nat} (hF : j_Fx 0 260 P) (hn : 260 ≤ n) (X : j_X p R s m args meth c g b 0 jb_M_forceOn 5 "PleasureGardenModel" (some .int)) {kb8 : Int32 → Int32 → Int32 → Int32 → j_M → Option (Int32 × j_M)} (hkb8 : ∀ (x1 : Int32) (x2 : Int32) (x3 : Int32) (x4 : Int32) (I : j_M) (r : Int32 × j_M), kb8 x1 x2 x3 x4 I = some r → j_W p l e R s m args below meth c 5 g b n 0 0 (j_Qi g b n P below args s r) I P 8 [some (.ref (b + 215)), some (.int x1), some (.int x2), some (.int x3), some (.int x4)] []) {x1 : Int32} {x2 : Int32} {x3 : Int32} {x4 : Int32} {I : j_M} {r : Int32 × j_M}  (h : f_M_forceOn_8b F kb8 x1 x2 x3 x4 I = some r) : j_W p l e R s m args below meth c 5 g b n 0 0 (j_Qi g b n P below args s r) I P 8 [some (.ref (b + 215)), some (.int x1), some (.int x2), some (.int x3), some (.int x4)] [] := by
  unfold f_M_forceOn_8b at h
  refine j_iload X jd_M_forceOn_8 rfl ?_
  refine j_if_lt (tgt := 55) X jd_M_forceOn_10 rfl h (fun h => ?_) (fun h => ?_)
  · refine j_bipush (v := (-2)) X jd_M_forceOn_55 (by decide) ?_
    exact j_iret X rfl jd_M_forceOn_57 h
  · refine j_aload_n X jd_M_forceOn_13 rfl rfl ?_
    refine j_getr X jf_M_110 jk_12_53 js_215 (j_lt rfl hn) (jp_215_53 hF) jd_M_forceOn_14 ?_
    refine j_iload X jd_M_forceOn_17 rfl ?_
    refine j_iald X js_246 (j_lt rfl hn) jd_M_forceOn_19 h (fun _ h => ?_)
    refine j_iload_n X jd_M_forceOn_20 rfl rfl ?_
    refine j_icmp_ne (tgt := 49) X jd_M_forceOn_21 rfl h (fun h => ?_) (fun h => ?_)
    · refine j_aload_n X jd_M_forceOn_24 rfl rfl ?_
      refine j_getr X jf_M_113 jk_12_54 js_215 (j_lt rfl hn) (jp_215_54 hF) jd_M_forceOn_25 ?_
      refine j_iload X jd_M_forceOn_28 rfl ?_
      refine j_iald X js_247 (j_lt rfl hn) jd_M_forceOn_30 h (fun _ h => ?_)
      refine j_iload_n X jd_M_forceOn_31 rfl rfl ?_
      refine j_icmp_gt (tgt := 49) X jd_M_forceOn_32 rfl h (fun h => ?_) (fun h => ?_)
      · exact k_M_forceOn_49 hF hn X hkb8 h
      · refine j_aload_n X jd_M_forceOn_35 rfl rfl ?_
        refine j_getr X jf_M_116 jk_12_55 js_215 (j_lt rfl hn) (jp_215_55 hF) jd_M_forceOn_36 ?_
        refine j_iload X jd_M_forceOn_39 rfl ?_
        refine j_iald X js_248 (j_lt rfl hn) jd_M_forceOn_41 h (fun _ h => ?_)
        refine j_iload_n X jd_M_forceOn_42 rfl rfl ?_
        refine j_icmp_gt (tgt := 49) X jd_M_forceOn_43 rfl h (fun h => ?_) (fun h => ?_)
        · exact k_M_forceOn_49 hF hn X hkb8 h
        · refine j_iload X jd_M_forceOn_46 rfl ?_
          exact j_iret X rfl jd_M_forceOn_48 h
    · exact k_M_forceOn_49 hF hn X hkb8 h
set_option maxRecDepth 100000 in
set_option maxHeartbeats 4000000 in
theorem k_M_forceOn_8 {p : Program} {l : Launch} {e : Env} {R : Room} {s : State} {m : MethodId} {args : Array Value} {below : List Frame} {meth : Method} {c : Code} {g : j_G} {b n : Nat} {P : j_R} {F : Nat} (hF : j_Fx 0 260 P) (hn : 260 ≤ n) (X : j_X p R s m args meth c g b 0 jb_M_forceOn 5 "PleasureGardenModel" (some .int))  {x1 : Int32} {x2 : Int32} {x3 : Int32} {x4 : Int32} {I : j_M} {r : Int32 × j_M} (h : f_M_forceOn_8 F x1 x2 x3 x4 I = some r) : j_W p l e R s m args below meth c 5 g b n 0 0 (j_Qi g b n P below args s r) I P 8 [some (.ref (b + 215)), some (.int x1), some (.int x2), some (.int x3), some (.int x4)] [] := by
  refine j_loop (G := fun (q : Int32 × Int32 × Int32 × Int32 × j_M) (r : Int32 × j_M) => j_W p l e R s m args below meth c 5 g b n 0 0 (j_Qi g b n P below args s r) q.2.2.2.2 P 8 [some (.ref (b + 215)), some (.int (q.1)), some (.int (q.2.1)), some (.int (q.2.2.1)), some (.int (q.2.2.2.1))] []) ?_ F (x1, x2, x3, x4, I) r h
  intro again hrec0 q r h
  exact k_M_forceOn_8b hF hn X (fun x1 x2 x3 x4 I r h => hrec0 (x1, x2, x3, x4, I) r h)  h
set_option maxRecDepth 100000 in
set_option maxHeartbeats 4000000 in
theorem k_M_forceOn {l : Launch} {g : j_G} {b n : Nat} {P : j_R} {F : Nat} (hF : j_Fx 0 260 P) (hn : 260 ≤ n) {x1 : Int32} {x2 : Int32} {x3 : Int32} {I : j_M} {r : Int32 × j_M}  (h : f_M_forceOn F x1 x2 x3 I = some r) : j_Met l g b n P 0 jy_M_forceOn jb_M_forceOn 5 (some .int) [.ref (b + 215), .int x1, .int x2, .int x3] I r.2 (some (.int r.1)) := by
  unfold f_M_forceOn at h
  refine j_enter (plainFor_of_name (by decide)) (Nat.le_of_ble_eq_true rfl) [some (.ref (b + 215)), some (.int x1), some (.int x2), some (.int x3), none] rfl ?_
  intro p e R s m args below meth c X0 hnm hRc hRs
  have X : j_X p R s m args meth c g b 0 jb_M_forceOn 5 "PleasureGardenModel" (some .int) := X0
  clear X0
  refine j_aload_n X jd_M_forceOn_0 rfl rfl ?_
  refine j_get X jf_M_310 jk_12_52 js_215 (j_lt rfl hn) jd_M_forceOn_1 ?_
  refine j_iconst (v := 1) X jd_M_forceOn_4 (by decide) ?_
  refine j_isub X jd_M_forceOn_5 ?_
  refine j_nm h (fun v2 h => ?_)
  refine j_istore (lv' := [some (.ref (b + 215)), some (.int x1), some (.int x2), some (.int x3), some (.int v2)]) X jd_M_forceOn_6 (by decide) rfl ?_
  exact k_M_forceOn_8 hF hn X h
-- PleasureGardenModel.both(III)I
theorem jd_M_both_0 : decode jb_M_both 0 = .ok (.iload_n 0, 1) := by decide +kernel
theorem jd_M_both_1 : decode jb_M_both 1 = .ok (.lookupswitch 104 #[(40, 59), (41, 70), (42, 81), (50, 92), (51, 96), (60, 100)], 59) := by decide +kernel
theorem jd_M_both_60 : decode jb_M_both 60 = .ok (.iload_n 1, 1) := by decide +kernel
theorem jd_M_both_61 : decode jb_M_both 61 = .ok (.iload_n 2, 1) := by decide +kernel
theorem jd_M_both_62 : decode jb_M_both 62 = .ok (.if_icmp .ge 7, 3) := by decide +kernel
theorem jd_M_both_65 : decode jb_M_both 65 = .ok (.iconst 1, 1) := by decide +kernel
theorem jd_M_both_66 : decode jb_M_both 66 = .ok (.goto 4, 3) := by decide +kernel
theorem jd_M_both_69 : decode jb_M_both 69 = .ok (.iconst 0, 1) := by decide +kernel
theorem jd_M_both_70 : decode jb_M_both 70 = .ok (.ireturn, 1) := by decide +kernel
theorem jd_M_both_71 : decode jb_M_both 71 = .ok (.iload_n 1, 1) := by decide +kernel
theorem jd_M_both_72 : decode jb_M_both 72 = .ok (.iload_n 2, 1) := by decide +kernel
theorem jd_M_both_73 : decode jb_M_both 73 = .ok (.if_icmp .ne 7, 3) := by decide +kernel
theorem jd_M_both_76 : decode jb_M_both 76 = .ok (.iconst 1, 1) := by decide +kernel
theorem jd_M_both_77 : decode jb_M_both 77 = .ok (.goto 4, 3) := by decide +kernel
theorem jd_M_both_80 : decode jb_M_both 80 = .ok (.iconst 0, 1) := by decide +kernel
theorem jd_M_both_81 : decode jb_M_both 81 = .ok (.ireturn, 1) := by decide +kernel
theorem jd_M_both_82 : decode jb_M_both 82 = .ok (.iload_n 1, 1) := by decide +kernel
theorem jd_M_both_83 : decode jb_M_both 83 = .ok (.iload_n 2, 1) := by decide +kernel
theorem jd_M_both_84 : decode jb_M_both 84 = .ok (.if_icmp .le 7, 3) := by decide +kernel
theorem jd_M_both_87 : decode jb_M_both 87 = .ok (.iconst 1, 1) := by decide +kernel
theorem jd_M_both_88 : decode jb_M_both 88 = .ok (.goto 4, 3) := by decide +kernel
theorem jd_M_both_91 : decode jb_M_both 91 = .ok (.iconst 0, 1) := by decide +kernel
theorem jd_M_both_92 : decode jb_M_both 92 = .ok (.ireturn, 1) := by decide +kernel
theorem jd_M_both_93 : decode jb_M_both 93 = .ok (.iload_n 1, 1) := by decide +kernel
theorem jd_M_both_94 : decode jb_M_both 94 = .ok (.iload_n 2, 1) := by decide +kernel
theorem jd_M_both_95 : decode jb_M_both 95 = .ok (.iadd, 1) := by decide +kernel
theorem jd_M_both_96 : decode jb_M_both 96 = .ok (.ireturn, 1) := by decide +kernel
theorem jd_M_both_97 : decode jb_M_both 97 = .ok (.iload_n 1, 1) := by decide +kernel
theorem jd_M_both_98 : decode jb_M_both 98 = .ok (.iload_n 2, 1) := by decide +kernel
theorem jd_M_both_99 : decode jb_M_both 99 = .ok (.isub, 1) := by decide +kernel
theorem jd_M_both_100 : decode jb_M_both 100 = .ok (.ireturn, 1) := by decide +kernel
theorem jd_M_both_101 : decode jb_M_both 101 = .ok (.iload_n 1, 1) := by decide +kernel
theorem jd_M_both_102 : decode jb_M_both 102 = .ok (.iload_n 2, 1) := by decide +kernel
theorem jd_M_both_103 : decode jb_M_both 103 = .ok (.imul, 1) := by decide +kernel
theorem jd_M_both_104 : decode jb_M_both 104 = .ok (.ireturn, 1) := by decide +kernel
theorem jd_M_both_105 : decode jb_M_both 105 = .ok (.iload_n 2, 1) := by decide +kernel
theorem jd_M_both_106 : decode jb_M_both 106 = .ok (.ifCond .ne 7, 3) := by decide +kernel
theorem jd_M_both_109 : decode jb_M_both 109 = .ok (.iconst 0, 1) := by decide +kernel
theorem jd_M_both_110 : decode jb_M_both 110 = .ok (.goto 16, 3) := by decide +kernel
theorem jd_M_both_113 : decode jb_M_both 113 = .ok (.iload_n 2, 1) := by decide +kernel
theorem jd_M_both_114 : decode jb_M_both 114 = .ok (.iconst (-1), 1) := by decide +kernel
theorem jd_M_both_115 : decode jb_M_both 115 = .ok (.if_icmp .ne 8, 3) := by decide +kernel
theorem jd_M_both_118 : decode jb_M_both 118 = .ok (.iload_n 1, 1) := by decide +kernel
theorem jd_M_both_119 : decode jb_M_both 119 = .ok (.ineg, 1) := by decide +kernel
theorem jd_M_both_120 : decode jb_M_both 120 = .ok (.goto 6, 3) := by decide +kernel
theorem jd_M_both_123 : decode jb_M_both 123 = .ok (.iload_n 1, 1) := by decide +kernel
theorem jd_M_both_124 : decode jb_M_both 124 = .ok (.iload_n 2, 1) := by decide +kernel
theorem jd_M_both_125 : decode jb_M_both 125 = .ok (.idiv, 1) := by decide +kernel
theorem jd_M_both_126 : decode jb_M_both 126 = .ok (.ireturn, 1) := by decide +kernel
def f_M_both (F : Nat) (x0 : Int32) (x1 : Int32) (x2 : Int32) (I : j_M) : Option (Int32 × j_M) := (if x0 = 40 then (if x2 ≤ x1 then some (0, I) else some (1, I)) else (if x0 = 41 then (if x1 = x2 then some (1, I) else some (0, I)) else (if x0 = 42 then (if x1 ≤ x2 then some (0, I) else some (1, I)) else (if x0 = 50 then some (x1 + x2, I) else (if x0 = 51 then some (x1 - x2, I) else (if x0 = 60 then some (x1 * x2, I) else (if x2 = 0 then some (0, I) else (if x2 = (-1) then some (-x1, I) else (if x2 = 0 then none else some (x1 / x2, I))))))))))
set_option maxRecDepth 100000 in
set_option maxHeartbeats 4000000 in
theorem k_M_both {l : Launch} {g : j_G} {b n : Nat} {P : j_R} {F : Nat} (hF : j_Fx 0 260 P) (hn : 260 ≤ n) {x0 : Int32} {x1 : Int32} {x2 : Int32} {I : j_M} {r : Int32 × j_M}  (h : f_M_both F x0 x1 x2 I = some r) : j_Met l g b n P 0 jy_M_both jb_M_both 3 (some .int) [.int x0, .int x1, .int x2] I r.2 (some (.int r.1)) := by
  unfold f_M_both at h
  refine j_enter (plainFor_of_name (by decide)) (Nat.le_of_ble_eq_true rfl) [some (.int x0), some (.int x1), some (.int x2)] rfl ?_
  intro p e R s m args below meth c X0 hnm hRc hRs
  have X : j_X p R s m args meth c g b 0 jb_M_both 3 "PleasureGardenModel" (some .int) := X0
  clear X0
  refine j_iload_n X jd_M_both_0 rfl rfl ?_
  refine j_ite h (fun e1 h => ?_) (fun e1 h => ?_)
  · refine j_lookIn (tgt := 60) (off := 59) X jd_M_both_1 e1 (by decide) (by decide) rfl ?_
    refine j_iload_n X jd_M_both_60 rfl rfl ?_
    refine j_iload_n X jd_M_both_61 rfl rfl ?_
    refine j_icmp_ge (tgt := 69) X jd_M_both_62 rfl h (fun h => ?_) (fun h => ?_)
    · refine j_iconst (v := 0) X jd_M_both_69 (by decide) ?_
      exact j_iret X rfl jd_M_both_70 h
    · refine j_iconst (v := 1) X jd_M_both_65 (by decide) ?_
      refine j_goto (tgt := 70) X jd_M_both_66 rfl ?_
      exact j_iret X rfl jd_M_both_70 h
  · refine j_ite h (fun e2 h => ?_) (fun e2 h => ?_)
    · refine j_lookIn (tgt := 71) (off := 70) X jd_M_both_1 e2 (by decide) (by decide) rfl ?_
      refine j_iload_n X jd_M_both_71 rfl rfl ?_
      refine j_iload_n X jd_M_both_72 rfl rfl ?_
      refine j_icmp_ne (tgt := 80) X jd_M_both_73 rfl h (fun h => ?_) (fun h => ?_)
      · refine j_iconst (v := 1) X jd_M_both_76 (by decide) ?_
        refine j_goto (tgt := 81) X jd_M_both_77 rfl ?_
        exact j_iret X rfl jd_M_both_81 h
      · refine j_iconst (v := 0) X jd_M_both_80 (by decide) ?_
        exact j_iret X rfl jd_M_both_81 h
    · refine j_ite h (fun e3 h => ?_) (fun e3 h => ?_)
      · refine j_lookIn (tgt := 82) (off := 81) X jd_M_both_1 e3 (by decide) (by decide) rfl ?_
        refine j_iload_n X jd_M_both_82 rfl rfl ?_
        refine j_iload_n X jd_M_both_83 rfl rfl ?_
        refine j_icmp_le (tgt := 91) X jd_M_both_84 rfl h (fun h => ?_) (fun h => ?_)
        · refine j_iconst (v := 0) X jd_M_both_91 (by decide) ?_
          exact j_iret X rfl jd_M_both_92 h
        · refine j_iconst (v := 1) X jd_M_both_87 (by decide) ?_
          refine j_goto (tgt := 92) X jd_M_both_88 rfl ?_
          exact j_iret X rfl jd_M_both_92 h
      · refine j_ite h (fun e4 h => ?_) (fun e4 h => ?_)
        · refine j_lookIn (tgt := 93) (off := 92) X jd_M_both_1 e4 (by decide) (by decide) rfl ?_
          refine j_iload_n X jd_M_both_93 rfl rfl ?_
          refine j_iload_n X jd_M_both_94 rfl rfl ?_
          refine j_iadd X jd_M_both_95 ?_
          exact j_iret X rfl jd_M_both_96 h
        · refine j_ite h (fun e5 h => ?_) (fun e5 h => ?_)
          · refine j_lookIn (tgt := 97) (off := 96) X jd_M_both_1 e5 (by decide) (by decide) rfl ?_
            refine j_iload_n X jd_M_both_97 rfl rfl ?_
            refine j_iload_n X jd_M_both_98 rfl rfl ?_
            refine j_isub X jd_M_both_99 ?_
            exact j_iret X rfl jd_M_both_100 h
          · refine j_ite h (fun e6 h => ?_) (fun e6 h => ?_)
            · refine j_lookIn (tgt := 101) (off := 100) X jd_M_both_1 e6 (by decide) (by decide) rfl ?_
              refine j_iload_n X jd_M_both_101 rfl rfl ?_
              refine j_iload_n X jd_M_both_102 rfl rfl ?_
              refine j_imul X jd_M_both_103 ?_
              exact j_iret X rfl jd_M_both_104 h
            · refine j_lookOut (tgt := 105) X [40, 41, 42, 50, 51, 60] jd_M_both_1 (j_allc e1 (j_allc e2 (j_allc e3 (j_allc e4 (j_allc e5 (j_allc e6 j_all0)))))) (by decide) (by decide) rfl ?_
              refine j_iload_n X jd_M_both_105 rfl rfl ?_
              refine j_if_ne (tgt := 113) X jd_M_both_106 rfl h (fun h => ?_) (fun h => ?_)
              · refine j_iconst (v := 0) X jd_M_both_109 (by decide) ?_
                refine j_goto (tgt := 126) X jd_M_both_110 rfl ?_
                exact j_iret X rfl jd_M_both_126 h
              · refine j_iload_n X jd_M_both_113 rfl rfl ?_
                refine j_iconst (v := (-1)) X jd_M_both_114 (by decide) ?_
                refine j_icmp_ne (tgt := 123) X jd_M_both_115 rfl h (fun h => ?_) (fun h => ?_)
                · refine j_iload_n X jd_M_both_118 rfl rfl ?_
                  refine j_ineg X jd_M_both_119 ?_
                  refine j_goto (tgt := 126) X jd_M_both_120 rfl ?_
                  exact j_iret X rfl jd_M_both_126 h
                · refine j_iload_n X jd_M_both_123 rfl rfl ?_
                  refine j_iload_n X jd_M_both_124 rfl rfl ?_
                  refine j_idiv X jd_M_both_125 h (fun h => ?_)
                  exact j_iret X rfl jd_M_both_126 h
-- PleasureGardenModel.off(II)I
theorem jd_M_off_0 : decode jb_M_off 0 = .ok (.iload_n 0, 1) := by decide +kernel
theorem jd_M_off_1 : decode jb_M_off 1 = .ok (.iload_n 1, 1) := by decide +kernel
theorem jd_M_off_2 : decode jb_M_off 2 = .ok (.if_icmp .ge 9, 3) := by decide +kernel
theorem jd_M_off_5 : decode jb_M_off 5 = .ok (.iload_n 1, 1) := by decide +kernel
theorem jd_M_off_6 : decode jb_M_off 6 = .ok (.iload_n 0, 1) := by decide +kernel
theorem jd_M_off_7 : decode jb_M_off 7 = .ok (.isub, 1) := by decide +kernel
theorem jd_M_off_8 : decode jb_M_off 8 = .ok (.goto 6, 3) := by decide +kernel
theorem jd_M_off_11 : decode jb_M_off 11 = .ok (.iload_n 0, 1) := by decide +kernel
theorem jd_M_off_12 : decode jb_M_off 12 = .ok (.iload_n 1, 1) := by decide +kernel
theorem jd_M_off_13 : decode jb_M_off 13 = .ok (.isub, 1) := by decide +kernel
theorem jd_M_off_14 : decode jb_M_off 14 = .ok (.ireturn, 1) := by decide +kernel
def f_M_off (F : Nat) (x0 : Int32) (x1 : Int32) (I : j_M) : Option (Int32 × j_M) := (if x1 ≤ x0 then some (x0 - x1, I) else some (x1 - x0, I))
set_option maxRecDepth 100000 in
set_option maxHeartbeats 4000000 in
theorem k_M_off {l : Launch} {g : j_G} {b n : Nat} {P : j_R} {F : Nat} (hF : j_Fx 0 260 P) (hn : 260 ≤ n) {x0 : Int32} {x1 : Int32} {I : j_M} {r : Int32 × j_M}  (h : f_M_off F x0 x1 I = some r) : j_Met l g b n P 0 jy_M_off jb_M_off 2 (some .int) [.int x0, .int x1] I r.2 (some (.int r.1)) := by
  unfold f_M_off at h
  refine j_enter (plainFor_of_name (by decide)) (Nat.le_of_ble_eq_true rfl) [some (.int x0), some (.int x1)] rfl ?_
  intro p e R s m args below meth c X0 hnm hRc hRs
  have X : j_X p R s m args meth c g b 0 jb_M_off 2 "PleasureGardenModel" (some .int) := X0
  clear X0
  refine j_iload_n X jd_M_off_0 rfl rfl ?_
  refine j_iload_n X jd_M_off_1 rfl rfl ?_
  refine j_icmp_ge (tgt := 11) X jd_M_off_2 rfl h (fun h => ?_) (fun h => ?_)
  · refine j_iload_n X jd_M_off_11 rfl rfl ?_
    refine j_iload_n X jd_M_off_12 rfl rfl ?_
    refine j_isub X jd_M_off_13 ?_
    exact j_iret X rfl jd_M_off_14 h
  · refine j_iload_n X jd_M_off_5 rfl rfl ?_
    refine j_iload_n X jd_M_off_6 rfl rfl ?_
    refine j_isub X jd_M_off_7 ?_
    refine j_goto (tgt := 14) X jd_M_off_8 rfl ?_
    exact j_iret X rfl jd_M_off_14 h
-- PleasureGardenModel.isNear(II)Z
theorem jd_M_isNear_0 : decode jb_M_isNear 0 = .ok (.aload_n 0, 1) := by decide +kernel
theorem jd_M_isNear_1 : decode jb_M_isNear 1 = .ok (.getfield 171, 3) := by decide +kernel
theorem jd_M_isNear_4 : decode jb_M_isNear 4 = .ok (.ifCond .ne 33, 3) := by decide +kernel
theorem jd_M_isNear_7 : decode jb_M_isNear 7 = .ok (.aload_n 0, 1) := by decide +kernel
theorem jd_M_isNear_8 : decode jb_M_isNear 8 = .ok (.getfield 38, 3) := by decide +kernel
theorem jd_M_isNear_11 : decode jb_M_isNear 11 = .ok (.iload_n 1, 1) := by decide +kernel
theorem jd_M_isNear_12 : decode jb_M_isNear 12 = .ok (.iaload, 1) := by decide +kernel
theorem jd_M_isNear_13 : decode jb_M_isNear 13 = .ok (.ifCond .ne 22, 3) := by decide +kernel
theorem jd_M_isNear_16 : decode jb_M_isNear 16 = .ok (.aload_n 0, 1) := by decide +kernel
theorem jd_M_isNear_17 : decode jb_M_isNear 17 = .ok (.getfield 41, 3) := by decide +kernel
theorem jd_M_isNear_20 : decode jb_M_isNear 20 = .ok (.iload_n 1, 1) := by decide +kernel
theorem jd_M_isNear_21 : decode jb_M_isNear 21 = .ok (.iaload, 1) := by decide +kernel
theorem jd_M_isNear_22 : decode jb_M_isNear 22 = .ok (.aload_n 0, 1) := by decide +kernel
theorem jd_M_isNear_23 : decode jb_M_isNear 23 = .ok (.getfield 149, 3) := by decide +kernel
theorem jd_M_isNear_26 : decode jb_M_isNear 26 = .ok (.iload_n 2, 1) := by decide +kernel
theorem jd_M_isNear_27 : decode jb_M_isNear 27 = .ok (.iaload, 1) := by decide +kernel
theorem jd_M_isNear_28 : decode jb_M_isNear 28 = .ok (.if_icmp .ne 7, 3) := by decide +kernel
theorem jd_M_isNear_31 : decode jb_M_isNear 31 = .ok (.iconst 1, 1) := by decide +kernel
theorem jd_M_isNear_32 : decode jb_M_isNear 32 = .ok (.goto 4, 3) := by decide +kernel
theorem jd_M_isNear_35 : decode jb_M_isNear 35 = .ok (.iconst 0, 1) := by decide +kernel
theorem jd_M_isNear_36 : decode jb_M_isNear 36 = .ok (.ireturn, 1) := by decide +kernel
theorem jd_M_isNear_37 : decode jb_M_isNear 37 = .ok (.aload_n 0, 1) := by decide +kernel
theorem jd_M_isNear_38 : decode jb_M_isNear 38 = .ok (.getfield 146, 3) := by decide +kernel
theorem jd_M_isNear_41 : decode jb_M_isNear 41 = .ok (.iload_n 2, 1) := by decide +kernel
theorem jd_M_isNear_42 : decode jb_M_isNear 42 = .ok (.iaload, 1) := by decide +kernel
theorem jd_M_isNear_43 : decode jb_M_isNear 43 = .ok (.aload_n 0, 1) := by decide +kernel
theorem jd_M_isNear_44 : decode jb_M_isNear 44 = .ok (.getfield 59, 3) := by decide +kernel
theorem jd_M_isNear_47 : decode jb_M_isNear 47 = .ok (.iload_n 1, 1) := by decide +kernel
theorem jd_M_isNear_48 : decode jb_M_isNear 48 = .ok (.iaload, 1) := by decide +kernel
theorem jd_M_isNear_49 : decode jb_M_isNear 49 = .ok (.if_icmp .lt 34, 3) := by decide +kernel
theorem jd_M_isNear_52 : decode jb_M_isNear 52 = .ok (.aload_n 0, 1) := by decide +kernel
theorem jd_M_isNear_53 : decode jb_M_isNear 53 = .ok (.getfield 63, 3) := by decide +kernel
theorem jd_M_isNear_56 : decode jb_M_isNear 56 = .ok (.bipush 100, 2) := by decide +kernel
theorem jd_M_isNear_58 : decode jb_M_isNear 58 = .ok (.aload_n 0, 1) := by decide +kernel
theorem jd_M_isNear_59 : decode jb_M_isNear 59 = .ok (.getfield 146, 3) := by decide +kernel
theorem jd_M_isNear_62 : decode jb_M_isNear 62 = .ok (.iload_n 2, 1) := by decide +kernel
theorem jd_M_isNear_63 : decode jb_M_isNear 63 = .ok (.iaload, 1) := by decide +kernel
theorem jd_M_isNear_64 : decode jb_M_isNear 64 = .ok (.imul, 1) := by decide +kernel
theorem jd_M_isNear_65 : decode jb_M_isNear 65 = .ok (.iload_n 1, 1) := by decide +kernel
theorem jd_M_isNear_66 : decode jb_M_isNear 66 = .ok (.iadd, 1) := by decide +kernel
theorem jd_M_isNear_67 : decode jb_M_isNear 67 = .ok (.baload, 1) := by decide +kernel
theorem jd_M_isNear_68 : decode jb_M_isNear 68 = .ok (.aload_n 0, 1) := by decide +kernel
theorem jd_M_isNear_69 : decode jb_M_isNear 69 = .ok (.getfield 149, 3) := by decide +kernel
theorem jd_M_isNear_72 : decode jb_M_isNear 72 = .ok (.iload_n 2, 1) := by decide +kernel
theorem jd_M_isNear_73 : decode jb_M_isNear 73 = .ok (.iaload, 1) := by decide +kernel
theorem jd_M_isNear_74 : decode jb_M_isNear 74 = .ok (.iconst 1, 1) := by decide +kernel
theorem jd_M_isNear_75 : decode jb_M_isNear 75 = .ok (.iadd, 1) := by decide +kernel
theorem jd_M_isNear_76 : decode jb_M_isNear 76 = .ok (.if_icmp .ne 7, 3) := by decide +kernel
theorem jd_M_isNear_79 : decode jb_M_isNear 79 = .ok (.iconst 1, 1) := by decide +kernel
theorem jd_M_isNear_80 : decode jb_M_isNear 80 = .ok (.goto 4, 3) := by decide +kernel
theorem jd_M_isNear_83 : decode jb_M_isNear 83 = .ok (.iconst 0, 1) := by decide +kernel
theorem jd_M_isNear_84 : decode jb_M_isNear 84 = .ok (.ireturn, 1) := by decide +kernel
def f_M_isNear (F : Nat) (x1 : Int32) (x2 : Int32) (I : j_M) : Option (Int32 × j_M) := (if (I 215 2) = 0 then (if j_ok x1 100 = true then (if (I 225 (j_ix x1)) = 0 then (if j_ok x1 100 = true then (if j_ok x2 20 = true then (if (I 226 (j_ix x1)) = (I 259 (j_ix x2)) then some (1, I) else some (0, I)) else none) else none) else some (0, I)) else none) else (if j_ok x2 20 = true then (if j_ok x1 100 = true then (if (I 258 (j_ix x2)) < (I 232 (j_ix x1)) then some (0, I) else (if j_ok x2 20 = true then (if j_ok ((100 * (I 258 (j_ix x2))) + x1) 48000 = true then (if j_ok x2 20 = true then (if (I 233 (j_ix ((100 * (I 258 (j_ix x2))) + x1))) = ((I 259 (j_ix x2)) + 1) then some (1, I) else some (0, I)) else none) else none) else none)) else none) else none))
set_option maxRecDepth 100000 in
set_option maxHeartbeats 4000000 in
theorem k_M_isNear {l : Launch} {g : j_G} {b n : Nat} {P : j_R} {F : Nat} (hF : j_Fx 0 260 P) (hn : 260 ≤ n) {x1 : Int32} {x2 : Int32} {I : j_M} {r : Int32 × j_M}  (h : f_M_isNear F x1 x2 I = some r) : j_Met l g b n P 0 jy_M_isNear jb_M_isNear 3 (some .boolean) [.ref (b + 215), .int x1, .int x2] I r.2 (some (.int r.1)) := by
  unfold f_M_isNear at h
  refine j_enter (plainFor_of_name (by decide)) (Nat.le_of_ble_eq_true rfl) [some (.ref (b + 215)), some (.int x1), some (.int x2)] rfl ?_
  intro p e R s m args below meth c X0 hnm hRc hRs
  have X : j_X p R s m args meth c g b 0 jb_M_isNear 3 "PleasureGardenModel" (some .boolean) := X0
  clear X0
  refine j_aload_n X jd_M_isNear_0 rfl rfl ?_
  refine j_get X jf_M_171 jk_12_2 js_215 (j_lt rfl hn) jd_M_isNear_1 ?_
  refine j_if_ne (tgt := 37) X jd_M_isNear_4 rfl h (fun h => ?_) (fun h => ?_)
  · refine j_aload_n X jd_M_isNear_7 rfl rfl ?_
    refine j_getr X jf_M_38 jk_12_15 js_215 (j_lt rfl hn) (jp_215_15 hF) jd_M_isNear_8 ?_
    refine j_iload_n X jd_M_isNear_11 rfl rfl ?_
    refine j_iald X js_225 (j_lt rfl hn) jd_M_isNear_12 h (fun _ h => ?_)
    refine j_if_ne (tgt := 35) X jd_M_isNear_13 rfl h (fun h => ?_) (fun h => ?_)
    · refine j_aload_n X jd_M_isNear_16 rfl rfl ?_
      refine j_getr X jf_M_41 jk_12_16 js_215 (j_lt rfl hn) (jp_215_16 hF) jd_M_isNear_17 ?_
      refine j_iload_n X jd_M_isNear_20 rfl rfl ?_
      refine j_iald X js_226 (j_lt rfl hn) jd_M_isNear_21 h (fun _ h => ?_)
      refine j_aload_n X jd_M_isNear_22 rfl rfl ?_
      refine j_getr X jf_M_149 jk_12_70 js_215 (j_lt rfl hn) (jp_215_70 hF) jd_M_isNear_23 ?_
      refine j_iload_n X jd_M_isNear_26 rfl rfl ?_
      refine j_iald X js_259 (j_lt rfl hn) jd_M_isNear_27 h (fun _ h => ?_)
      refine j_icmp_ne (tgt := 35) X jd_M_isNear_28 rfl h (fun h => ?_) (fun h => ?_)
      · refine j_iconst (v := 1) X jd_M_isNear_31 (by decide) ?_
        refine j_goto (tgt := 36) X jd_M_isNear_32 rfl ?_
        exact j_zret X rfl (by decide) jd_M_isNear_36 h
      · refine j_iconst (v := 0) X jd_M_isNear_35 (by decide) ?_
        exact j_zret X rfl (by decide) jd_M_isNear_36 h
    · refine j_iconst (v := 0) X jd_M_isNear_35 (by decide) ?_
      exact j_zret X rfl (by decide) jd_M_isNear_36 h
  · refine j_aload_n X jd_M_isNear_37 rfl rfl ?_
    refine j_getr X jf_M_146 jk_12_69 js_215 (j_lt rfl hn) (jp_215_69 hF) jd_M_isNear_38 ?_
    refine j_iload_n X jd_M_isNear_41 rfl rfl ?_
    refine j_iald X js_258 (j_lt rfl hn) jd_M_isNear_42 h (fun _ h => ?_)
    refine j_aload_n X jd_M_isNear_43 rfl rfl ?_
    refine j_getr X jf_M_59 jk_12_22 js_215 (j_lt rfl hn) (jp_215_22 hF) jd_M_isNear_44 ?_
    refine j_iload_n X jd_M_isNear_47 rfl rfl ?_
    refine j_iald X js_232 (j_lt rfl hn) jd_M_isNear_48 h (fun _ h => ?_)
    refine j_icmp_lt (tgt := 83) X jd_M_isNear_49 rfl h (fun h => ?_) (fun h => ?_)
    · refine j_iconst (v := 0) X jd_M_isNear_83 (by decide) ?_
      exact j_zret X rfl (by decide) jd_M_isNear_84 h
    · refine j_aload_n X jd_M_isNear_52 rfl rfl ?_
      refine j_getr X jf_M_63 jk_12_23 js_215 (j_lt rfl hn) (jp_215_23 hF) jd_M_isNear_53 ?_
      refine j_bipush (v := 100) X jd_M_isNear_56 (by decide) ?_
      refine j_aload_n X jd_M_isNear_58 rfl rfl ?_
      refine j_getr X jf_M_146 jk_12_69 js_215 (j_lt rfl hn) (jp_215_69 hF) jd_M_isNear_59 ?_
      refine j_iload_n X jd_M_isNear_62 rfl rfl ?_
      refine j_iald X js_258 (j_lt rfl hn) jd_M_isNear_63 h (fun _ h => ?_)
      refine j_imul X jd_M_isNear_64 ?_
      refine j_iload_n X jd_M_isNear_65 rfl rfl ?_
      refine j_iadd X jd_M_isNear_66 ?_
      refine j_bald X js_233 (j_lt rfl hn) jd_M_isNear_67 h (fun _ h => ?_)
      refine j_aload_n X jd_M_isNear_68 rfl rfl ?_
      refine j_getr X jf_M_149 jk_12_70 js_215 (j_lt rfl hn) (jp_215_70 hF) jd_M_isNear_69 ?_
      refine j_iload_n X jd_M_isNear_72 rfl rfl ?_
      refine j_iald X js_259 (j_lt rfl hn) jd_M_isNear_73 h (fun _ h => ?_)
      refine j_iconst (v := 1) X jd_M_isNear_74 (by decide) ?_
      refine j_iadd X jd_M_isNear_75 ?_
      refine j_icmp_ne (tgt := 83) X jd_M_isNear_76 rfl h (fun h => ?_) (fun h => ?_)
      · refine j_iconst (v := 1) X jd_M_isNear_79 (by decide) ?_
        refine j_goto (tgt := 84) X jd_M_isNear_80 rfl ?_
        exact j_zret X rfl (by decide) jd_M_isNear_84 h
      · refine j_iconst (v := 0) X jd_M_isNear_83 (by decide) ?_
        exact j_zret X rfl (by decide) jd_M_isNear_84 h
