-- PleasureGarden$Guests.has(I)Z
theorem jd_Gu_has_0 : decode jb_Gu_has 0 = .ok (.iload_n 1, 1) := by decide +kernel
theorem jd_Gu_has_1 : decode jb_Gu_has 1 = .ok (.ifCond .lt 15, 3) := by decide +kernel
theorem jd_Gu_has_4 : decode jb_Gu_has 4 = .ok (.iload_n 1, 1) := by decide +kernel
theorem jd_Gu_has_5 : decode jb_Gu_has 5 = .ok (.aload_n 0, 1) := by decide +kernel
theorem jd_Gu_has_6 : decode jb_Gu_has 6 = .ok (.getfield 7, 3) := by decide +kernel
theorem jd_Gu_has_9 : decode jb_Gu_has 9 = .ok (.if_icmp .ge 7, 3) := by decide +kernel
theorem jd_Gu_has_12 : decode jb_Gu_has 12 = .ok (.iconst 1, 1) := by decide +kernel
theorem jd_Gu_has_13 : decode jb_Gu_has 13 = .ok (.goto 4, 3) := by decide +kernel
theorem jd_Gu_has_16 : decode jb_Gu_has 16 = .ok (.iconst 0, 1) := by decide +kernel
theorem jd_Gu_has_17 : decode jb_Gu_has 17 = .ok (.ireturn, 1) := by decide +kernel
def f_Gu_has (F : Nat) (x1 : Int32) (I : j_M) : Option (Int32 × j_M) := (if x1 < 0 then some (0, I) else (if (I 41 0) ≤ x1 then some (0, I) else some (1, I)))
set_option maxRecDepth 100000 in
set_option maxHeartbeats 4000000 in
theorem k_Gu_has {l : Launch} {g : j_G} {b n : Nat} {P : j_R} {F : Nat} (hF : j_Fx 0 260 P) (hn : 260 ≤ n) {x1 : Int32} {I : j_M} {r : Int32 × j_M}  (h : f_Gu_has F x1 I = some r) : j_Met l g b n P 0 jy_Gu_has jb_Gu_has 2 (some .boolean) [.ref (b + 41), .int x1] I r.2 (some (.int r.1)) := by
  unfold f_Gu_has at h
  refine j_enter (plainFor_of_name (by decide)) (Nat.le_of_ble_eq_true rfl) [some (.ref (b + 41)), some (.int x1)] rfl ?_
  intro p e R s m args below meth c X0 hnm hRc hRs
  have X : j_X p R s m args meth c g b 0 jb_Gu_has 2 "PleasureGarden$Guests" (some .boolean) := X0
  clear X0
  refine j_iload_n X jd_Gu_has_0 rfl rfl ?_
  refine j_if_lt (tgt := 16) X jd_Gu_has_1 rfl h (fun h => ?_) (fun h => ?_)
  · refine j_iconst (v := 0) X jd_Gu_has_16 (by decide) ?_
    exact j_zret X rfl (by decide) jd_Gu_has_17 h
  · refine j_iload_n X jd_Gu_has_4 rfl rfl ?_
    refine j_aload_n X jd_Gu_has_5 rfl rfl ?_
    refine j_get X jf_Gu_7 jk_3_0 js_41 (j_lt rfl hn) jd_Gu_has_6 ?_
    refine j_icmp_ge (tgt := 16) X jd_Gu_has_9 rfl h (fun h => ?_) (fun h => ?_)
    · refine j_iconst (v := 0) X jd_Gu_has_16 (by decide) ?_
      exact j_zret X rfl (by decide) jd_Gu_has_17 h
    · refine j_iconst (v := 1) X jd_Gu_has_12 (by decide) ?_
      refine j_goto (tgt := 17) X jd_Gu_has_13 rfl ?_
      exact j_zret X rfl (by decide) jd_Gu_has_17 h
-- PleasureGarden$Guests.headsAt(I)I
theorem jd_Gu_headsAt_0 : decode jb_Gu_headsAt 0 = .ok (.iconst 0, 1) := by decide +kernel
theorem jd_Gu_headsAt_1 : decode jb_Gu_headsAt 1 = .ok (.istore_n 2, 1) := by decide +kernel
theorem jd_Gu_headsAt_2 : decode jb_Gu_headsAt 2 = .ok (.iconst 0, 1) := by decide +kernel
theorem jd_Gu_headsAt_3 : decode jb_Gu_headsAt 3 = .ok (.istore_n 3, 1) := by decide +kernel
theorem jd_Gu_headsAt_4 : decode jb_Gu_headsAt 4 = .ok (.iload_n 3, 1) := by decide +kernel
theorem jd_Gu_headsAt_5 : decode jb_Gu_headsAt 5 = .ok (.aload_n 0, 1) := by decide +kernel
theorem jd_Gu_headsAt_6 : decode jb_Gu_headsAt 6 = .ok (.getfield 7, 3) := by decide +kernel
theorem jd_Gu_headsAt_9 : decode jb_Gu_headsAt 9 = .ok (.if_icmp .ge 46, 3) := by decide +kernel
theorem jd_Gu_headsAt_12 : decode jb_Gu_headsAt 12 = .ok (.aload_n 0, 1) := by decide +kernel
theorem jd_Gu_headsAt_13 : decode jb_Gu_headsAt 13 = .ok (.getfield 15, 3) := by decide +kernel
theorem jd_Gu_headsAt_16 : decode jb_Gu_headsAt 16 = .ok (.iload_n 3, 1) := by decide +kernel
theorem jd_Gu_headsAt_17 : decode jb_Gu_headsAt 17 = .ok (.aaload, 1) := by decide +kernel
theorem jd_Gu_headsAt_18 : decode jb_Gu_headsAt 18 = .ok (.getfield 33, 3) := by decide +kernel
theorem jd_Gu_headsAt_21 : decode jb_Gu_headsAt 21 = .ok (.ifCond .ne 28, 3) := by decide +kernel
theorem jd_Gu_headsAt_24 : decode jb_Gu_headsAt 24 = .ok (.aload_n 0, 1) := by decide +kernel
theorem jd_Gu_headsAt_25 : decode jb_Gu_headsAt 25 = .ok (.getfield 15, 3) := by decide +kernel
theorem jd_Gu_headsAt_28 : decode jb_Gu_headsAt 28 = .ok (.iload_n 3, 1) := by decide +kernel
theorem jd_Gu_headsAt_29 : decode jb_Gu_headsAt 29 = .ok (.aaload, 1) := by decide +kernel
theorem jd_Gu_headsAt_30 : decode jb_Gu_headsAt 30 = .ok (.getfield 36, 3) := by decide +kernel
theorem jd_Gu_headsAt_33 : decode jb_Gu_headsAt 33 = .ok (.iload_n 1, 1) := by decide +kernel
theorem jd_Gu_headsAt_34 : decode jb_Gu_headsAt 34 = .ok (.if_icmp .ne 15, 3) := by decide +kernel
theorem jd_Gu_headsAt_37 : decode jb_Gu_headsAt 37 = .ok (.iload_n 2, 1) := by decide +kernel
theorem jd_Gu_headsAt_38 : decode jb_Gu_headsAt 38 = .ok (.aload_n 0, 1) := by decide +kernel
theorem jd_Gu_headsAt_39 : decode jb_Gu_headsAt 39 = .ok (.getfield 15, 3) := by decide +kernel
theorem jd_Gu_headsAt_42 : decode jb_Gu_headsAt 42 = .ok (.iload_n 3, 1) := by decide +kernel
theorem jd_Gu_headsAt_43 : decode jb_Gu_headsAt 43 = .ok (.aaload, 1) := by decide +kernel
theorem jd_Gu_headsAt_44 : decode jb_Gu_headsAt 44 = .ok (.getfield 39, 3) := by decide +kernel
theorem jd_Gu_headsAt_47 : decode jb_Gu_headsAt 47 = .ok (.iadd, 1) := by decide +kernel
theorem jd_Gu_headsAt_48 : decode jb_Gu_headsAt 48 = .ok (.istore_n 2, 1) := by decide +kernel
theorem jd_Gu_headsAt_49 : decode jb_Gu_headsAt 49 = .ok (.iinc 3 1, 3) := by decide +kernel
theorem jd_Gu_headsAt_52 : decode jb_Gu_headsAt 52 = .ok (.goto (-48), 3) := by decide +kernel
theorem jd_Gu_headsAt_55 : decode jb_Gu_headsAt 55 = .ok (.iload_n 2, 1) := by decide +kernel
theorem jd_Gu_headsAt_56 : decode jb_Gu_headsAt 56 = .ok (.ireturn, 1) := by decide +kernel
def f_Gu_headsAt_49 (F : Nat) (kb4 : Int32 → Int32 → Int32 → j_M → Option (Int32 × j_M)) (x1 : Int32) (x2 : Int32) (x3 : Int32) (I : j_M) : Option (Int32 × j_M) := j_let (x3 + 1) (fun v1 => kb4 x1 x2 v1 I)
def f_Gu_headsAt_4b (F : Nat) (kb4 : Int32 → Int32 → Int32 → j_M → Option (Int32 × j_M)) (x1 : Int32) (x2 : Int32) (x3 : Int32) (I : j_M) : Option (Int32 × j_M) := (if (I 41 0) ≤ x3 then some (x2, I) else (if j_ok x3 100 = true then (if (I (43 + (j_ix x3)) 3) = 0 then (if j_ok x3 100 = true then (if (I (43 + (j_ix x3)) 4) = x1 then (if j_ok x3 100 = true then j_let (x2 + (I (43 + (j_ix x3)) 1)) (fun v5 => f_Gu_headsAt_49 F kb4 x1 v5 x3 I) else none) else f_Gu_headsAt_49 F kb4 x1 x2 x3 I) else none) else f_Gu_headsAt_49 F kb4 x1 x2 x3 I) else none))
def f_Gu_headsAt_4 (F : Nat)  (x1 : Int32) (x2 : Int32) (x3 : Int32) (I : j_M) : Option (Int32 × j_M) := j_it (fun (again : Int32 × Int32 × Int32 × j_M → Option (Int32 × j_M)) (q : Int32 × Int32 × Int32 × j_M) => f_Gu_headsAt_4b F  (fun x1 x2 x3 I => again (x1, x2, x3, I))  q.1 q.2.1 q.2.2.1 q.2.2.2) F (x1, x2, x3, I)
def f_Gu_headsAt (F : Nat) (x1 : Int32) (I : j_M) : Option (Int32 × j_M) := f_Gu_headsAt_4 F x1 0 0 I
set_option maxRecDepth 100000 in
set_option maxHeartbeats 4000000 in
theorem k_Gu_headsAt_49 {p : Program} {l : Launch} {e : Env} {R : Room} {s : State} {m : MethodId} {args : Array Value} {below : List Frame} {meth : Method} {c : Code} {g : j_G} {b n : Nat} {P : j_R} {F : Nat} (hF : j_Fx 0 260 P) (hn : 260 ≤ n) (X : j_X p R s m args meth c g b 0 jb_Gu_headsAt 4 "PleasureGarden$Guests" (some .int)) {kb4 : Int32 → Int32 → Int32 → j_M → Option (Int32 × j_M)} (hkb4 : ∀ (x1 : Int32) (x2 : Int32) (x3 : Int32) (I : j_M) (r : Int32 × j_M), kb4 x1 x2 x3 I = some r → j_W p l e R s m args below meth c 4 g b n 0 0 (j_Qi g b n P below args s r) I P 4 [some (.ref (b + 41)), some (.int x1), some (.int x2), some (.int x3)] []) {x1 : Int32} {x2 : Int32} {x3 : Int32} {I : j_M} {r : Int32 × j_M}  (h : f_Gu_headsAt_49 F kb4 x1 x2 x3 I = some r) : j_W p l e R s m args below meth c 4 g b n 0 0 (j_Qi g b n P below args s r) I P 49 [some (.ref (b + 41)), some (.int x1), some (.int x2), some (.int x3)] [] := by
  unfold f_Gu_headsAt_49 at h
  obtain ⟨v1, ev1, h⟩ := j_ex h
  refine j_iinc (v := v1) (lv' := [some (.ref (b + 41)), some (.int x1), some (.int x2), some (.int v1)]) X jd_Gu_headsAt_49 rfl (by rw [ev1]; rfl) (by decide) rfl ?_
  refine j_goto (tgt := 4) X jd_Gu_headsAt_52 rfl ?_
  exact hkb4 _ _ _ _ _ h
set_option maxRecDepth 100000 in
set_option maxHeartbeats 4000000 in
theorem k_Gu_headsAt_4b {p : Program} {l : Launch} {e : Env} {R : Room} {s : State} {m : MethodId} {args : Array Value} {below : List Frame} {meth : Method} {c : Code} {g : j_G} {b n : Nat} {P : j_R} {F : Nat} (hF : j_Fx 0 260 P) (hn : 260 ≤ n) (X : j_X p R s m args meth c g b 0 jb_Gu_headsAt 4 "PleasureGarden$Guests" (some .int)) {kb4 : Int32 → Int32 → Int32 → j_M → Option (Int32 × j_M)} (hkb4 : ∀ (x1 : Int32) (x2 : Int32) (x3 : Int32) (I : j_M) (r : Int32 × j_M), kb4 x1 x2 x3 I = some r → j_W p l e R s m args below meth c 4 g b n 0 0 (j_Qi g b n P below args s r) I P 4 [some (.ref (b + 41)), some (.int x1), some (.int x2), some (.int x3)] []) {x1 : Int32} {x2 : Int32} {x3 : Int32} {I : j_M} {r : Int32 × j_M}  (h : f_Gu_headsAt_4b F kb4 x1 x2 x3 I = some r) : j_W p l e R s m args below meth c 4 g b n 0 0 (j_Qi g b n P below args s r) I P 4 [some (.ref (b + 41)), some (.int x1), some (.int x2), some (.int x3)] [] := by
  unfold f_Gu_headsAt_4b at h
  refine j_iload_n X jd_Gu_headsAt_4 rfl rfl ?_
  refine j_aload_n X jd_Gu_headsAt_5 rfl rfl ?_
  refine j_get X jf_Gu_7 jk_3_0 js_41 (j_lt rfl hn) jd_Gu_headsAt_6 ?_
  refine j_icmp_ge (tgt := 55) X jd_Gu_headsAt_9 rfl h (fun h => ?_) (fun h => ?_)
  · refine j_iload_n X jd_Gu_headsAt_55 rfl rfl ?_
    exact j_iret X rfl jd_Gu_headsAt_56 h
  · refine j_aload_n X jd_Gu_headsAt_12 rfl rfl ?_
    refine j_getr X jf_Gu_15 jk_3_1 js_41 (j_lt rfl hn) (jp_41_1 hF) jd_Gu_headsAt_13 ?_
    refine j_iload_n X jd_Gu_headsAt_16 rfl rfl ?_
    refine j_aald X rfl rfl js_42 (j_lt rfl hn) jd_Gu_headsAt_17 (fun q => ja_42 hF _ (j_ok_lt q)) h (fun hb2 h => ?_)
    refine j_get X jf_Gu_33 jk_4_3 (jsp_43 (j_ok_lt hb2)) (j_ltq (j_ok_lt hb2) rfl hn) jd_Gu_headsAt_18 ?_
    refine j_if_ne (tgt := 49) X jd_Gu_headsAt_21 rfl h (fun h => ?_) (fun h => ?_)
    · refine j_aload_n X jd_Gu_headsAt_24 rfl rfl ?_
      refine j_getr X jf_Gu_15 jk_3_1 js_41 (j_lt rfl hn) (jp_41_1 hF) jd_Gu_headsAt_25 ?_
      refine j_iload_n X jd_Gu_headsAt_28 rfl rfl ?_
      refine j_aald X rfl rfl js_42 (j_lt rfl hn) jd_Gu_headsAt_29 (fun q => ja_42 hF _ (j_ok_lt q)) h (fun hb3 h => ?_)
      refine j_get X jf_Gu_36 jk_4_4 (jsp_43 (j_ok_lt hb3)) (j_ltq (j_ok_lt hb3) rfl hn) jd_Gu_headsAt_30 ?_
      refine j_iload_n X jd_Gu_headsAt_33 rfl rfl ?_
      refine j_icmp_ne (tgt := 49) X jd_Gu_headsAt_34 rfl h (fun h => ?_) (fun h => ?_)
      · refine j_iload_n X jd_Gu_headsAt_37 rfl rfl ?_
        refine j_aload_n X jd_Gu_headsAt_38 rfl rfl ?_
        refine j_getr X jf_Gu_15 jk_3_1 js_41 (j_lt rfl hn) (jp_41_1 hF) jd_Gu_headsAt_39 ?_
        refine j_iload_n X jd_Gu_headsAt_42 rfl rfl ?_
        refine j_aald X rfl rfl js_42 (j_lt rfl hn) jd_Gu_headsAt_43 (fun q => ja_42 hF _ (j_ok_lt q)) h (fun hb4 h => ?_)
        refine j_get X jf_Gu_39 jk_4_1 (jsp_43 (j_ok_lt hb4)) (j_ltq (j_ok_lt hb4) rfl hn) jd_Gu_headsAt_44 ?_
        refine j_iadd X jd_Gu_headsAt_47 ?_
        refine j_nm h (fun v5 h => ?_)
        refine j_istore_n (lv' := [some (.ref (b + 41)), some (.int x1), some (.int v5), some (.int x3)]) X jd_Gu_headsAt_48 rfl (by decide) rfl ?_
        exact k_Gu_headsAt_49 hF hn X hkb4 h
      · exact k_Gu_headsAt_49 hF hn X hkb4 h
    · exact k_Gu_headsAt_49 hF hn X hkb4 h
set_option maxRecDepth 100000 in
set_option maxHeartbeats 4000000 in
theorem k_Gu_headsAt_4 {p : Program} {l : Launch} {e : Env} {R : Room} {s : State} {m : MethodId} {args : Array Value} {below : List Frame} {meth : Method} {c : Code} {g : j_G} {b n : Nat} {P : j_R} {F : Nat} (hF : j_Fx 0 260 P) (hn : 260 ≤ n) (X : j_X p R s m args meth c g b 0 jb_Gu_headsAt 4 "PleasureGarden$Guests" (some .int))  {x1 : Int32} {x2 : Int32} {x3 : Int32} {I : j_M} {r : Int32 × j_M} (h : f_Gu_headsAt_4 F x1 x2 x3 I = some r) : j_W p l e R s m args below meth c 4 g b n 0 0 (j_Qi g b n P below args s r) I P 4 [some (.ref (b + 41)), some (.int x1), some (.int x2), some (.int x3)] [] := by
  refine j_loop (G := fun (q : Int32 × Int32 × Int32 × j_M) (r : Int32 × j_M) => j_W p l e R s m args below meth c 4 g b n 0 0 (j_Qi g b n P below args s r) q.2.2.2 P 4 [some (.ref (b + 41)), some (.int (q.1)), some (.int (q.2.1)), some (.int (q.2.2.1))] []) ?_ F (x1, x2, x3, I) r h
  intro again hrec0 q r h
  exact k_Gu_headsAt_4b hF hn X (fun x1 x2 x3 I r h => hrec0 (x1, x2, x3, I) r h)  h
set_option maxRecDepth 100000 in
set_option maxHeartbeats 4000000 in
theorem k_Gu_headsAt {l : Launch} {g : j_G} {b n : Nat} {P : j_R} {F : Nat} (hF : j_Fx 0 260 P) (hn : 260 ≤ n) {x1 : Int32} {I : j_M} {r : Int32 × j_M}  (h : f_Gu_headsAt F x1 I = some r) : j_Met l g b n P 0 jy_Gu_headsAt jb_Gu_headsAt 4 (some .int) [.ref (b + 41), .int x1] I r.2 (some (.int r.1)) := by
  unfold f_Gu_headsAt at h
  refine j_enter (plainFor_of_name (by decide)) (Nat.le_of_ble_eq_true rfl) [some (.ref (b + 41)), some (.int x1), none, none] rfl ?_
  intro p e R s m args below meth c X0 hnm hRc hRs
  have X : j_X p R s m args meth c g b 0 jb_Gu_headsAt 4 "PleasureGarden$Guests" (some .int) := X0
  clear X0
  refine j_iconst (v := 0) X jd_Gu_headsAt_0 (by decide) ?_
  refine j_istore_n (lv' := [some (.ref (b + 41)), some (.int x1), some (.int 0), none]) X jd_Gu_headsAt_1 rfl (by decide) rfl ?_
  refine j_iconst (v := 0) X jd_Gu_headsAt_2 (by decide) ?_
  refine j_istore_n (lv' := [some (.ref (b + 41)), some (.int x1), some (.int 0), some (.int 0)]) X jd_Gu_headsAt_3 rfl (by decide) rfl ?_
  exact k_Gu_headsAt_4 hF hn X h
-- PleasureGarden$Guests.headsThatCame()I
theorem jd_Gu_headsThatCame_0 : decode jb_Gu_headsThatCame 0 = .ok (.iconst 0, 1) := by decide +kernel
theorem jd_Gu_headsThatCame_1 : decode jb_Gu_headsThatCame 1 = .ok (.istore_n 1, 1) := by decide +kernel
theorem jd_Gu_headsThatCame_2 : decode jb_Gu_headsThatCame 2 = .ok (.iconst 0, 1) := by decide +kernel
theorem jd_Gu_headsThatCame_3 : decode jb_Gu_headsThatCame 3 = .ok (.istore_n 2, 1) := by decide +kernel
theorem jd_Gu_headsThatCame_4 : decode jb_Gu_headsThatCame 4 = .ok (.iload_n 2, 1) := by decide +kernel
theorem jd_Gu_headsThatCame_5 : decode jb_Gu_headsThatCame 5 = .ok (.aload_n 0, 1) := by decide +kernel
theorem jd_Gu_headsThatCame_6 : decode jb_Gu_headsThatCame 6 = .ok (.getfield 7, 3) := by decide +kernel
theorem jd_Gu_headsThatCame_9 : decode jb_Gu_headsThatCame 9 = .ok (.if_icmp .ge 21, 3) := by decide +kernel
theorem jd_Gu_headsThatCame_12 : decode jb_Gu_headsThatCame 12 = .ok (.iload_n 1, 1) := by decide +kernel
theorem jd_Gu_headsThatCame_13 : decode jb_Gu_headsThatCame 13 = .ok (.aload_n 0, 1) := by decide +kernel
theorem jd_Gu_headsThatCame_14 : decode jb_Gu_headsThatCame 14 = .ok (.getfield 15, 3) := by decide +kernel
theorem jd_Gu_headsThatCame_17 : decode jb_Gu_headsThatCame 17 = .ok (.iload_n 2, 1) := by decide +kernel
theorem jd_Gu_headsThatCame_18 : decode jb_Gu_headsThatCame 18 = .ok (.aaload, 1) := by decide +kernel
theorem jd_Gu_headsThatCame_19 : decode jb_Gu_headsThatCame 19 = .ok (.getfield 39, 3) := by decide +kernel
theorem jd_Gu_headsThatCame_22 : decode jb_Gu_headsThatCame 22 = .ok (.iadd, 1) := by decide +kernel
theorem jd_Gu_headsThatCame_23 : decode jb_Gu_headsThatCame 23 = .ok (.istore_n 1, 1) := by decide +kernel
theorem jd_Gu_headsThatCame_24 : decode jb_Gu_headsThatCame 24 = .ok (.iinc 2 1, 3) := by decide +kernel
theorem jd_Gu_headsThatCame_27 : decode jb_Gu_headsThatCame 27 = .ok (.goto (-23), 3) := by decide +kernel
theorem jd_Gu_headsThatCame_30 : decode jb_Gu_headsThatCame 30 = .ok (.iload_n 1, 1) := by decide +kernel
theorem jd_Gu_headsThatCame_31 : decode jb_Gu_headsThatCame 31 = .ok (.ireturn, 1) := by decide +kernel
def f_Gu_headsThatCame_4b (F : Nat) (kb4 : Int32 → Int32 → j_M → Option (Int32 × j_M)) (x1 : Int32) (x2 : Int32) (I : j_M) : Option (Int32 × j_M) := (if (I 41 0) ≤ x2 then some (x1, I) else (if j_ok x2 100 = true then j_let (x1 + (I (43 + (j_ix x2)) 1)) (fun v2 => j_let (x2 + 1) (fun v3 => kb4 v2 v3 I)) else none))
def f_Gu_headsThatCame_4 (F : Nat)  (x1 : Int32) (x2 : Int32) (I : j_M) : Option (Int32 × j_M) := j_it (fun (again : Int32 × Int32 × j_M → Option (Int32 × j_M)) (q : Int32 × Int32 × j_M) => f_Gu_headsThatCame_4b F  (fun x1 x2 I => again (x1, x2, I))  q.1 q.2.1 q.2.2) F (x1, x2, I)
def f_Gu_headsThatCame (F : Nat)  (I : j_M) : Option (Int32 × j_M) := f_Gu_headsThatCame_4 F 0 0 I
set_option maxRecDepth 100000 in
set_option maxHeartbeats 4000000 in
theorem k_Gu_headsThatCame_4b {p : Program} {l : Launch} {e : Env} {R : Room} {s : State} {m : MethodId} {args : Array Value} {below : List Frame} {meth : Method} {c : Code} {g : j_G} {b n : Nat} {P : j_R} {F : Nat} (hF : j_Fx 0 260 P) (hn : 260 ≤ n) (X : j_X p R s m args meth c g b 0 jb_Gu_headsThatCame 3 "PleasureGarden$Guests" (some .int)) {kb4 : Int32 → Int32 → j_M → Option (Int32 × j_M)} (hkb4 : ∀ (x1 : Int32) (x2 : Int32) (I : j_M) (r : Int32 × j_M), kb4 x1 x2 I = some r → j_W p l e R s m args below meth c 3 g b n 0 0 (j_Qi g b n P below args s r) I P 4 [some (.ref (b + 41)), some (.int x1), some (.int x2)] []) {x1 : Int32} {x2 : Int32} {I : j_M} {r : Int32 × j_M}  (h : f_Gu_headsThatCame_4b F kb4 x1 x2 I = some r) : j_W p l e R s m args below meth c 3 g b n 0 0 (j_Qi g b n P below args s r) I P 4 [some (.ref (b + 41)), some (.int x1), some (.int x2)] [] := by
  unfold f_Gu_headsThatCame_4b at h
  refine j_iload_n X jd_Gu_headsThatCame_4 rfl rfl ?_
  refine j_aload_n X jd_Gu_headsThatCame_5 rfl rfl ?_
  refine j_get X jf_Gu_7 jk_3_0 js_41 (j_lt rfl hn) jd_Gu_headsThatCame_6 ?_
  refine j_icmp_ge (tgt := 30) X jd_Gu_headsThatCame_9 rfl h (fun h => ?_) (fun h => ?_)
  · refine j_iload_n X jd_Gu_headsThatCame_30 rfl rfl ?_
    exact j_iret X rfl jd_Gu_headsThatCame_31 h
  · refine j_iload_n X jd_Gu_headsThatCame_12 rfl rfl ?_
    refine j_aload_n X jd_Gu_headsThatCame_13 rfl rfl ?_
    refine j_getr X jf_Gu_15 jk_3_1 js_41 (j_lt rfl hn) (jp_41_1 hF) jd_Gu_headsThatCame_14 ?_
    refine j_iload_n X jd_Gu_headsThatCame_17 rfl rfl ?_
    refine j_aald X rfl rfl js_42 (j_lt rfl hn) jd_Gu_headsThatCame_18 (fun q => ja_42 hF _ (j_ok_lt q)) h (fun hb1 h => ?_)
    refine j_get X jf_Gu_39 jk_4_1 (jsp_43 (j_ok_lt hb1)) (j_ltq (j_ok_lt hb1) rfl hn) jd_Gu_headsThatCame_19 ?_
    refine j_iadd X jd_Gu_headsThatCame_22 ?_
    refine j_nm h (fun v2 h => ?_)
    refine j_istore_n (lv' := [some (.ref (b + 41)), some (.int v2), some (.int x2)]) X jd_Gu_headsThatCame_23 rfl (by decide) rfl ?_
    obtain ⟨v3, ev3, h⟩ := j_ex h
    refine j_iinc (v := v3) (lv' := [some (.ref (b + 41)), some (.int v2), some (.int v3)]) X jd_Gu_headsThatCame_24 rfl (by rw [ev3]; rfl) (by decide) rfl ?_
    refine j_goto (tgt := 4) X jd_Gu_headsThatCame_27 rfl ?_
    exact hkb4 _ _ _ _ h
set_option maxRecDepth 100000 in
set_option maxHeartbeats 4000000 in
theorem k_Gu_headsThatCame_4 {p : Program} {l : Launch} {e : Env} {R : Room} {s : State} {m : MethodId} {args : Array Value} {below : List Frame} {meth : Method} {c : Code} {g : j_G} {b n : Nat} {P : j_R} {F : Nat} (hF : j_Fx 0 260 P) (hn : 260 ≤ n) (X : j_X p R s m args meth c g b 0 jb_Gu_headsThatCame 3 "PleasureGarden$Guests" (some .int))  {x1 : Int32} {x2 : Int32} {I : j_M} {r : Int32 × j_M} (h : f_Gu_headsThatCame_4 F x1 x2 I = some r) : j_W p l e R s m args below meth c 3 g b n 0 0 (j_Qi g b n P below args s r) I P 4 [some (.ref (b + 41)), some (.int x1), some (.int x2)] [] := by
  refine j_loop (G := fun (q : Int32 × Int32 × j_M) (r : Int32 × j_M) => j_W p l e R s m args below meth c 3 g b n 0 0 (j_Qi g b n P below args s r) q.2.2 P 4 [some (.ref (b + 41)), some (.int (q.1)), some (.int (q.2.1))] []) ?_ F (x1, x2, I) r h
  intro again hrec0 q r h
  exact k_Gu_headsThatCame_4b hF hn X (fun x1 x2 I r h => hrec0 (x1, x2, I) r h)  h
set_option maxRecDepth 100000 in
set_option maxHeartbeats 4000000 in
theorem k_Gu_headsThatCame {l : Launch} {g : j_G} {b n : Nat} {P : j_R} {F : Nat} (hF : j_Fx 0 260 P) (hn : 260 ≤ n)  {I : j_M} {r : Int32 × j_M}  (h : f_Gu_headsThatCame F I = some r) : j_Met l g b n P 0 jy_Gu_headsThatCame jb_Gu_headsThatCame 3 (some .int) [.ref (b + 41)] I r.2 (some (.int r.1)) := by
  unfold f_Gu_headsThatCame at h
  refine j_enter (plainFor_of_name (by decide)) (Nat.le_of_ble_eq_true rfl) [some (.ref (b + 41)), none, none] rfl ?_
  intro p e R s m args below meth c X0 hnm hRc hRs
  have X : j_X p R s m args meth c g b 0 jb_Gu_headsThatCame 3 "PleasureGarden$Guests" (some .int) := X0
  clear X0
  refine j_iconst (v := 0) X jd_Gu_headsThatCame_0 (by decide) ?_
  refine j_istore_n (lv' := [some (.ref (b + 41)), some (.int 0), none]) X jd_Gu_headsThatCame_1 rfl (by decide) rfl ?_
  refine j_iconst (v := 0) X jd_Gu_headsThatCame_2 (by decide) ?_
  refine j_istore_n (lv' := [some (.ref (b + 41)), some (.int 0), some (.int 0)]) X jd_Gu_headsThatCame_3 rfl (by decide) rfl ?_
  exact k_Gu_headsThatCame_4 hF hn X h
-- PleasureGarden$Lamps.has(I)Z
theorem jd_La_has_0 : decode jb_La_has 0 = .ok (.iload_n 1, 1) := by decide +kernel
theorem jd_La_has_1 : decode jb_La_has 1 = .ok (.ifCond .lt 15, 3) := by decide +kernel
theorem jd_La_has_4 : decode jb_La_has 4 = .ok (.iload_n 1, 1) := by decide +kernel
theorem jd_La_has_5 : decode jb_La_has 5 = .ok (.aload_n 0, 1) := by decide +kernel
theorem jd_La_has_6 : decode jb_La_has 6 = .ok (.getfield 7, 3) := by decide +kernel
theorem jd_La_has_9 : decode jb_La_has 9 = .ok (.if_icmp .ge 7, 3) := by decide +kernel
theorem jd_La_has_12 : decode jb_La_has 12 = .ok (.iconst 1, 1) := by decide +kernel
theorem jd_La_has_13 : decode jb_La_has 13 = .ok (.goto 4, 3) := by decide +kernel
theorem jd_La_has_16 : decode jb_La_has 16 = .ok (.iconst 0, 1) := by decide +kernel
theorem jd_La_has_17 : decode jb_La_has 17 = .ok (.ireturn, 1) := by decide +kernel
def f_La_has (F : Nat) (x1 : Int32) (I : j_M) : Option (Int32 × j_M) := (if x1 < 0 then some (0, I) else (if (I 150 0) ≤ x1 then some (0, I) else some (1, I)))
set_option maxRecDepth 100000 in
set_option maxHeartbeats 4000000 in
theorem k_La_has {l : Launch} {g : j_G} {b n : Nat} {P : j_R} {F : Nat} (hF : j_Fx 0 260 P) (hn : 260 ≤ n) {x1 : Int32} {I : j_M} {r : Int32 × j_M}  (h : f_La_has F x1 I = some r) : j_Met l g b n P 0 jy_La_has jb_La_has 2 (some .boolean) [.ref (b + 150), .int x1] I r.2 (some (.int r.1)) := by
  unfold f_La_has at h
  refine j_enter (plainFor_of_name (by decide)) (Nat.le_of_ble_eq_true rfl) [some (.ref (b + 150)), some (.int x1)] rfl ?_
  intro p e R s m args below meth c X0 hnm hRc hRs
  have X : j_X p R s m args meth c g b 0 jb_La_has 2 "PleasureGarden$Lamps" (some .boolean) := X0
  clear X0
  refine j_iload_n X jd_La_has_0 rfl rfl ?_
  refine j_if_lt (tgt := 16) X jd_La_has_1 rfl h (fun h => ?_) (fun h => ?_)
  · refine j_iconst (v := 0) X jd_La_has_16 (by decide) ?_
    exact j_zret X rfl (by decide) jd_La_has_17 h
  · refine j_iload_n X jd_La_has_4 rfl rfl ?_
    refine j_aload_n X jd_La_has_5 rfl rfl ?_
    refine j_get X jf_La_7 jk_6_0 js_150 (j_lt rfl hn) jd_La_has_6 ?_
    refine j_icmp_ge (tgt := 16) X jd_La_has_9 rfl h (fun h => ?_) (fun h => ?_)
    · refine j_iconst (v := 0) X jd_La_has_16 (by decide) ?_
      exact j_zret X rfl (by decide) jd_La_has_17 h
    · refine j_iconst (v := 1) X jd_La_has_12 (by decide) ?_
      refine j_goto (tgt := 17) X jd_La_has_13 rfl ?_
      exact j_zret X rfl (by decide) jd_La_has_17 h
-- PleasureGarden$Lamps.hang(I)I
theorem jd_La_hang_0 : decode jb_La_hang 0 = .ok (.aload_n 0, 1) := by decide +kernel
theorem jd_La_hang_1 : decode jb_La_hang 1 = .ok (.getfield 19, 3) := by decide +kernel
theorem jd_La_hang_4 : decode jb_La_hang 4 = .ok (.aload_n 0, 1) := by decide +kernel
theorem jd_La_hang_5 : decode jb_La_hang 5 = .ok (.getfield 7, 3) := by decide +kernel
theorem jd_La_hang_8 : decode jb_La_hang 8 = .ok (.iload_n 1, 1) := by decide +kernel
theorem jd_La_hang_9 : decode jb_La_hang 9 = .ok (.iastore, 1) := by decide +kernel
theorem jd_La_hang_10 : decode jb_La_hang 10 = .ok (.aload_n 0, 1) := by decide +kernel
theorem jd_La_hang_11 : decode jb_La_hang 11 = .ok (.getfield 23, 3) := by decide +kernel
theorem jd_La_hang_14 : decode jb_La_hang 14 = .ok (.aload_n 0, 1) := by decide +kernel
theorem jd_La_hang_15 : decode jb_La_hang 15 = .ok (.getfield 7, 3) := by decide +kernel
theorem jd_La_hang_18 : decode jb_La_hang 18 = .ok (.iconst (-1), 1) := by decide +kernel
theorem jd_La_hang_19 : decode jb_La_hang 19 = .ok (.iastore, 1) := by decide +kernel
theorem jd_La_hang_20 : decode jb_La_hang 20 = .ok (.aload_n 0, 1) := by decide +kernel
theorem jd_La_hang_21 : decode jb_La_hang 21 = .ok (.dup, 1) := by decide +kernel
theorem jd_La_hang_22 : decode jb_La_hang 22 = .ok (.getfield 7, 3) := by decide +kernel
theorem jd_La_hang_25 : decode jb_La_hang 25 = .ok (.iconst 1, 1) := by decide +kernel
theorem jd_La_hang_26 : decode jb_La_hang 26 = .ok (.iadd, 1) := by decide +kernel
theorem jd_La_hang_27 : decode jb_La_hang 27 = .ok (.putfield 7, 3) := by decide +kernel
theorem jd_La_hang_30 : decode jb_La_hang 30 = .ok (.aload_n 0, 1) := by decide +kernel
theorem jd_La_hang_31 : decode jb_La_hang 31 = .ok (.getfield 7, 3) := by decide +kernel
theorem jd_La_hang_34 : decode jb_La_hang 34 = .ok (.iconst 1, 1) := by decide +kernel
theorem jd_La_hang_35 : decode jb_La_hang 35 = .ok (.isub, 1) := by decide +kernel
theorem jd_La_hang_36 : decode jb_La_hang 36 = .ok (.ireturn, 1) := by decide +kernel
def f_La_hang (F : Nat) (x1 : Int32) (I : j_M) : Option (Int32 × j_M) := (if j_ok (I 150 0) 40 = true then j_let (j_wr I 151 (j_ix (I 150 0)) x1) (fun I1 => (if j_ok (I1 150 0) 40 = true then j_let (j_wr I1 152 (j_ix (I1 150 0)) (-1)) (fun I2 => j_let (j_wr I2 150 0 ((I2 150 0) + 1)) (fun I3 => some ((I3 150 0) - 1, I3))) else none)) else none)
set_option maxRecDepth 100000 in
set_option maxHeartbeats 4000000 in
theorem k_La_hang {l : Launch} {g : j_G} {b n : Nat} {P : j_R} {F : Nat} (hF : j_Fx 0 260 P) (hn : 260 ≤ n) {x1 : Int32} {I : j_M} {r : Int32 × j_M}  (h : f_La_hang F x1 I = some r) : j_Met l g b n P 0 jy_La_hang jb_La_hang 2 (some .int) [.ref (b + 150), .int x1] I r.2 (some (.int r.1)) := by
  unfold f_La_hang at h
  refine j_enter (plainFor_of_name (by decide)) (Nat.le_of_ble_eq_true rfl) [some (.ref (b + 150)), some (.int x1)] rfl ?_
  intro p e R s m args below meth c X0 hnm hRc hRs
  have X : j_X p R s m args meth c g b 0 jb_La_hang 2 "PleasureGarden$Lamps" (some .int) := X0
  clear X0
  refine j_aload_n X jd_La_hang_0 rfl rfl ?_
  refine j_getr X jf_La_19 jk_6_3 js_150 (j_lt rfl hn) (jp_150_3 hF) jd_La_hang_1 ?_
  refine j_aload_n X jd_La_hang_4 rfl rfl ?_
  refine j_get X jf_La_7 jk_6_0 js_150 (j_lt rfl hn) jd_La_hang_5 ?_
  refine j_iload_n X jd_La_hang_8 rfl rfl ?_
  refine j_iast X js_151 (j_lt rfl hn) jd_La_hang_9 h (fun h => ?_)
  refine j_mem h (fun I1 h => ?_)
  refine j_aload_n X jd_La_hang_10 rfl rfl ?_
  refine j_getr X jf_La_23 jk_6_4 js_150 (j_lt rfl hn) (jp_150_4 hF) jd_La_hang_11 ?_
  refine j_aload_n X jd_La_hang_14 rfl rfl ?_
  refine j_get X jf_La_7 jk_6_0 js_150 (j_lt rfl hn) jd_La_hang_15 ?_
  refine j_iconst (v := (-1)) X jd_La_hang_18 (by decide) ?_
  refine j_iast X js_152 (j_lt rfl hn) jd_La_hang_19 h (fun h => ?_)
  refine j_mem h (fun I2 h => ?_)
  refine j_aload_n X jd_La_hang_20 rfl rfl ?_
  refine j_dup X jd_La_hang_21 rfl ?_
  refine j_get X jf_La_7 jk_6_0 js_150 (j_lt rfl hn) jd_La_hang_22 ?_
  refine j_iconst (v := 1) X jd_La_hang_25 (by decide) ?_
  refine j_iadd X jd_La_hang_26 ?_
  refine j_puti X jt_La jto_La jn_La jf_La_7 jk_6_0 js_150 (j_lt rfl hn) (Or.inl rfl) rfl jd_La_hang_27 ?_
  refine j_mem h (fun I3 h => ?_)
  refine j_aload_n X jd_La_hang_30 rfl rfl ?_
  refine j_get X jf_La_7 jk_6_0 js_150 (j_lt rfl hn) jd_La_hang_31 ?_
  refine j_iconst (v := 1) X jd_La_hang_34 (by decide) ?_
  refine j_isub X jd_La_hang_35 ?_
  exact j_iret X rfl jd_La_hang_36 h
-- PleasureGarden$Lamps.isLit(I)Z
theorem jd_La_isLit_0 : decode jb_La_isLit 0 = .ok (.aload_n 0, 1) := by decide +kernel
theorem jd_La_isLit_1 : decode jb_La_isLit 1 = .ok (.getfield 16, 3) := by decide +kernel
theorem jd_La_isLit_4 : decode jb_La_isLit 4 = .ok (.iconst (-1), 1) := by decide +kernel
theorem jd_La_isLit_5 : decode jb_La_isLit 5 = .ok (.if_icmp .eq 17, 3) := by decide +kernel
theorem jd_La_isLit_8 : decode jb_La_isLit 8 = .ok (.aload_n 0, 1) := by decide +kernel
theorem jd_La_isLit_9 : decode jb_La_isLit 9 = .ok (.getfield 23, 3) := by decide +kernel
theorem jd_La_isLit_12 : decode jb_La_isLit 12 = .ok (.iload_n 1, 1) := by decide +kernel
theorem jd_La_isLit_13 : decode jb_La_isLit 13 = .ok (.iaload, 1) := by decide +kernel
theorem jd_La_isLit_14 : decode jb_La_isLit 14 = .ok (.iconst (-1), 1) := by decide +kernel
theorem jd_La_isLit_15 : decode jb_La_isLit 15 = .ok (.if_icmp .eq 7, 3) := by decide +kernel
theorem jd_La_isLit_18 : decode jb_La_isLit 18 = .ok (.iconst 1, 1) := by decide +kernel
theorem jd_La_isLit_19 : decode jb_La_isLit 19 = .ok (.goto 4, 3) := by decide +kernel
theorem jd_La_isLit_22 : decode jb_La_isLit 22 = .ok (.iconst 0, 1) := by decide +kernel
theorem jd_La_isLit_23 : decode jb_La_isLit 23 = .ok (.ireturn, 1) := by decide +kernel
def f_La_isLit (F : Nat) (x1 : Int32) (I : j_M) : Option (Int32 × j_M) := (if (I 150 2) = (-1) then some (0, I) else (if j_ok x1 40 = true then (if (I 152 (j_ix x1)) = (-1) then some (0, I) else some (1, I)) else none))
set_option maxRecDepth 100000 in
set_option maxHeartbeats 4000000 in
theorem k_La_isLit {l : Launch} {g : j_G} {b n : Nat} {P : j_R} {F : Nat} (hF : j_Fx 0 260 P) (hn : 260 ≤ n) {x1 : Int32} {I : j_M} {r : Int32 × j_M}  (h : f_La_isLit F x1 I = some r) : j_Met l g b n P 0 jy_La_isLit jb_La_isLit 2 (some .boolean) [.ref (b + 150), .int x1] I r.2 (some (.int r.1)) := by
  unfold f_La_isLit at h
  refine j_enter (plainFor_of_name (by decide)) (Nat.le_of_ble_eq_true rfl) [some (.ref (b + 150)), some (.int x1)] rfl ?_
  intro p e R s m args below meth c X0 hnm hRc hRs
  have X : j_X p R s m args meth c g b 0 jb_La_isLit 2 "PleasureGarden$Lamps" (some .boolean) := X0
  clear X0
  refine j_aload_n X jd_La_isLit_0 rfl rfl ?_
  refine j_get X jf_La_16 jk_6_2 js_150 (j_lt rfl hn) jd_La_isLit_1 ?_
  refine j_iconst (v := (-1)) X jd_La_isLit_4 (by decide) ?_
  refine j_icmp_eq (tgt := 22) X jd_La_isLit_5 rfl h (fun h => ?_) (fun h => ?_)
  · refine j_iconst (v := 0) X jd_La_isLit_22 (by decide) ?_
    exact j_zret X rfl (by decide) jd_La_isLit_23 h
  · refine j_aload_n X jd_La_isLit_8 rfl rfl ?_
    refine j_getr X jf_La_23 jk_6_4 js_150 (j_lt rfl hn) (jp_150_4 hF) jd_La_isLit_9 ?_
    refine j_iload_n X jd_La_isLit_12 rfl rfl ?_
    refine j_iald X js_152 (j_lt rfl hn) jd_La_isLit_13 h (fun _ h => ?_)
    refine j_iconst (v := (-1)) X jd_La_isLit_14 (by decide) ?_
    refine j_icmp_eq (tgt := 22) X jd_La_isLit_15 rfl h (fun h => ?_) (fun h => ?_)
    · refine j_iconst (v := 0) X jd_La_isLit_22 (by decide) ?_
      exact j_zret X rfl (by decide) jd_La_isLit_23 h
    · refine j_iconst (v := 1) X jd_La_isLit_18 (by decide) ?_
      refine j_goto (tgt := 23) X jd_La_isLit_19 rfl ?_
      exact j_zret X rfl (by decide) jd_La_isLit_23 h
-- PleasureGarden$Lamps.putOut()V
theorem jd_La_putOut_0 : decode jb_La_putOut 0 = .ok (.aload_n 0, 1) := by decide +kernel
theorem jd_La_putOut_1 : decode jb_La_putOut 1 = .ok (.iconst (-1), 1) := by decide +kernel
theorem jd_La_putOut_2 : decode jb_La_putOut 2 = .ok (.putfield 16, 3) := by decide +kernel
theorem jd_La_putOut_5 : decode jb_La_putOut 5 = .ok (.return_, 1) := by decide +kernel
def f_La_putOut (F : Nat)  (I : j_M) : Option (Int32 × j_M) := j_let (j_wr I 150 2 (-1)) (fun I1 => some (0, I1))
set_option maxRecDepth 100000 in
set_option maxHeartbeats 4000000 in
theorem k_La_putOut {l : Launch} {g : j_G} {b n : Nat} {P : j_R} {F : Nat} (hF : j_Fx 0 260 P) (hn : 260 ≤ n)  {I : j_M} {r : Int32 × j_M}  (h : f_La_putOut F I = some r) : j_Met l g b n P 0 jy_La_putOut jb_La_putOut 1 none [.ref (b + 150)] I r.2 none := by
  unfold f_La_putOut at h
  refine j_enter (plainFor_of_name (by decide)) (Nat.le_of_ble_eq_true rfl) [some (.ref (b + 150))] rfl ?_
  intro p e R s m args below meth c X0 hnm hRc hRs
  have X : j_X p R s m args meth c g b 0 jb_La_putOut 1 "PleasureGarden$Lamps" none := X0
  clear X0
  refine j_aload_n X jd_La_putOut_0 rfl rfl ?_
  refine j_iconst (v := (-1)) X jd_La_putOut_1 (by decide) ?_
  refine j_puti X jt_La jto_La jn_La jf_La_16 jk_6_2 js_150 (j_lt rfl hn) (Or.inl rfl) rfl jd_La_putOut_2 ?_
  refine j_mem h (fun I1 h => ?_)
  exact j_vret X rfl jd_La_putOut_5 h
-- PleasureGarden$Prices.has(I)Z
theorem jd_Pr_has_0 : decode jb_Pr_has 0 = .ok (.iload_n 1, 1) := by decide +kernel
theorem jd_Pr_has_1 : decode jb_Pr_has 1 = .ok (.ifCond .lt 15, 3) := by decide +kernel
theorem jd_Pr_has_4 : decode jb_Pr_has 4 = .ok (.iload_n 1, 1) := by decide +kernel
theorem jd_Pr_has_5 : decode jb_Pr_has 5 = .ok (.aload_n 0, 1) := by decide +kernel
theorem jd_Pr_has_6 : decode jb_Pr_has 6 = .ok (.getfield 7, 3) := by decide +kernel
theorem jd_Pr_has_9 : decode jb_Pr_has 9 = .ok (.if_icmp .ge 7, 3) := by decide +kernel
theorem jd_Pr_has_12 : decode jb_Pr_has 12 = .ok (.iconst 1, 1) := by decide +kernel
theorem jd_Pr_has_13 : decode jb_Pr_has 13 = .ok (.goto 4, 3) := by decide +kernel
theorem jd_Pr_has_16 : decode jb_Pr_has 16 = .ok (.iconst 0, 1) := by decide +kernel
theorem jd_Pr_has_17 : decode jb_Pr_has 17 = .ok (.ireturn, 1) := by decide +kernel
def f_Pr_has (F : Nat) (x1 : Int32) (I : j_M) : Option (Int32 × j_M) := (if x1 < 0 then some (0, I) else (if (I 202 0) ≤ x1 then some (0, I) else some (1, I)))
set_option maxRecDepth 100000 in
set_option maxHeartbeats 4000000 in
theorem k_Pr_has {l : Launch} {g : j_G} {b n : Nat} {P : j_R} {F : Nat} (hF : j_Fx 0 260 P) (hn : 260 ≤ n) {x1 : Int32} {I : j_M} {r : Int32 × j_M}  (h : f_Pr_has F x1 I = some r) : j_Met l g b n P 0 jy_Pr_has jb_Pr_has 2 (some .boolean) [.ref (b + 202), .int x1] I r.2 (some (.int r.1)) := by
  unfold f_Pr_has at h
  refine j_enter (plainFor_of_name (by decide)) (Nat.le_of_ble_eq_true rfl) [some (.ref (b + 202)), some (.int x1)] rfl ?_
  intro p e R s m args below meth c X0 hnm hRc hRs
  have X : j_X p R s m args meth c g b 0 jb_Pr_has 2 "PleasureGarden$Prices" (some .boolean) := X0
  clear X0
  refine j_iload_n X jd_Pr_has_0 rfl rfl ?_
  refine j_if_lt (tgt := 16) X jd_Pr_has_1 rfl h (fun h => ?_) (fun h => ?_)
  · refine j_iconst (v := 0) X jd_Pr_has_16 (by decide) ?_
    exact j_zret X rfl (by decide) jd_Pr_has_17 h
  · refine j_iload_n X jd_Pr_has_4 rfl rfl ?_
    refine j_aload_n X jd_Pr_has_5 rfl rfl ?_
    refine j_get X jf_Pr_7 jk_9_0 js_202 (j_lt rfl hn) jd_Pr_has_6 ?_
    refine j_icmp_ge (tgt := 16) X jd_Pr_has_9 rfl h (fun h => ?_) (fun h => ?_)
    · refine j_iconst (v := 0) X jd_Pr_has_16 (by decide) ?_
      exact j_zret X rfl (by decide) jd_Pr_has_17 h
    · refine j_iconst (v := 1) X jd_Pr_has_12 (by decide) ?_
      refine j_goto (tgt := 17) X jd_Pr_has_13 rfl ?_
      exact j_zret X rfl (by decide) jd_Pr_has_17 h
-- PleasureGarden$Prices.write(II)I
theorem jd_Pr_write_0 : decode jb_Pr_write 0 = .ok (.iconst 0, 1) := by decide +kernel
theorem jd_Pr_write_1 : decode jb_Pr_write 1 = .ok (.istore_n 3, 1) := by decide +kernel
theorem jd_Pr_write_2 : decode jb_Pr_write 2 = .ok (.iload_n 3, 1) := by decide +kernel
theorem jd_Pr_write_3 : decode jb_Pr_write 3 = .ok (.iload_n 1, 1) := by decide +kernel
theorem jd_Pr_write_4 : decode jb_Pr_write 4 = .ok (.if_icmp .ge 43, 3) := by decide +kernel
theorem jd_Pr_write_7 : decode jb_Pr_write 7 = .ok (.aload_n 0, 1) := by decide +kernel
theorem jd_Pr_write_8 : decode jb_Pr_write 8 = .ok (.getfield 16, 3) := by decide +kernel
theorem jd_Pr_write_11 : decode jb_Pr_write 11 = .ok (.aload_n 0, 1) := by decide +kernel
theorem jd_Pr_write_12 : decode jb_Pr_write 12 = .ok (.getfield 7, 3) := by decide +kernel
theorem jd_Pr_write_15 : decode jb_Pr_write 15 = .ok (.bipush 120, 2) := by decide +kernel
theorem jd_Pr_write_17 : decode jb_Pr_write 17 = .ok (.imul, 1) := by decide +kernel
theorem jd_Pr_write_18 : decode jb_Pr_write 18 = .ok (.aload_n 0, 1) := by decide +kernel
theorem jd_Pr_write_19 : decode jb_Pr_write 19 = .ok (.getfield 13, 3) := by decide +kernel
theorem jd_Pr_write_22 : decode jb_Pr_write 22 = .ok (.iadd, 1) := by decide +kernel
theorem jd_Pr_write_23 : decode jb_Pr_write 23 = .ok (.iload_n 2, 1) := by decide +kernel
theorem jd_Pr_write_24 : decode jb_Pr_write 24 = .ok (.bipush 8, 2) := by decide +kernel
theorem jd_Pr_write_26 : decode jb_Pr_write 26 = .ok (.iload_n 3, 1) := by decide +kernel
theorem jd_Pr_write_27 : decode jb_Pr_write 27 = .ok (.imul, 1) := by decide +kernel
theorem jd_Pr_write_28 : decode jb_Pr_write 28 = .ok (.ishr, 1) := by decide +kernel
theorem jd_Pr_write_29 : decode jb_Pr_write 29 = .ok (.i2b, 1) := by decide +kernel
theorem jd_Pr_write_30 : decode jb_Pr_write 30 = .ok (.bastore, 1) := by decide +kernel
theorem jd_Pr_write_31 : decode jb_Pr_write 31 = .ok (.aload_n 0, 1) := by decide +kernel
theorem jd_Pr_write_32 : decode jb_Pr_write 32 = .ok (.dup, 1) := by decide +kernel
theorem jd_Pr_write_33 : decode jb_Pr_write 33 = .ok (.getfield 13, 3) := by decide +kernel
theorem jd_Pr_write_36 : decode jb_Pr_write 36 = .ok (.iconst 1, 1) := by decide +kernel
theorem jd_Pr_write_37 : decode jb_Pr_write 37 = .ok (.iadd, 1) := by decide +kernel
theorem jd_Pr_write_38 : decode jb_Pr_write 38 = .ok (.putfield 13, 3) := by decide +kernel
theorem jd_Pr_write_41 : decode jb_Pr_write 41 = .ok (.iinc 3 1, 3) := by decide +kernel
theorem jd_Pr_write_44 : decode jb_Pr_write 44 = .ok (.goto (-42), 3) := by decide +kernel
theorem jd_Pr_write_47 : decode jb_Pr_write 47 = .ok (.aload_n 0, 1) := by decide +kernel
theorem jd_Pr_write_48 : decode jb_Pr_write 48 = .ok (.getfield 13, 3) := by decide +kernel
theorem jd_Pr_write_51 : decode jb_Pr_write 51 = .ok (.ireturn, 1) := by decide +kernel
def f_Pr_write_2b (F : Nat) (kb2 : Int32 → Int32 → Int32 → j_M → Option (Int32 × j_M)) (x1 : Int32) (x2 : Int32) (x3 : Int32) (I : j_M) : Option (Int32 × j_M) := (if x1 ≤ x3 then some (I 202 1, I) else (if j_ok (((I 202 0) * 120) + (I 202 1)) 3720 = true then j_let (j_wr I 203 (j_ix (((I 202 0) * 120) + (I 202 1))) ((x2 >>> ((8 * x3) &&& 31)).toInt8.toInt32).toInt8.toInt32) (fun I1 => j_let (j_wr I1 202 1 ((I1 202 1) + 1)) (fun I2 => j_let (x3 + 1) (fun v3 => kb2 x1 x2 v3 I2))) else none))
def f_Pr_write_2 (F : Nat)  (x1 : Int32) (x2 : Int32) (x3 : Int32) (I : j_M) : Option (Int32 × j_M) := j_it (fun (again : Int32 × Int32 × Int32 × j_M → Option (Int32 × j_M)) (q : Int32 × Int32 × Int32 × j_M) => f_Pr_write_2b F  (fun x1 x2 x3 I => again (x1, x2, x3, I))  q.1 q.2.1 q.2.2.1 q.2.2.2) F (x1, x2, x3, I)
def f_Pr_write (F : Nat) (x1 : Int32) (x2 : Int32) (I : j_M) : Option (Int32 × j_M) := f_Pr_write_2 F x1 x2 0 I
set_option maxRecDepth 100000 in
set_option maxHeartbeats 4000000 in
theorem k_Pr_write_2b {p : Program} {l : Launch} {e : Env} {R : Room} {s : State} {m : MethodId} {args : Array Value} {below : List Frame} {meth : Method} {c : Code} {g : j_G} {b n : Nat} {P : j_R} {F : Nat} (hF : j_Fx 0 260 P) (hn : 260 ≤ n) (X : j_X p R s m args meth c g b 0 jb_Pr_write 4 "PleasureGarden$Prices" (some .int)) {kb2 : Int32 → Int32 → Int32 → j_M → Option (Int32 × j_M)} (hkb2 : ∀ (x1 : Int32) (x2 : Int32) (x3 : Int32) (I : j_M) (r : Int32 × j_M), kb2 x1 x2 x3 I = some r → j_W p l e R s m args below meth c 4 g b n 0 0 (j_Qi g b n P below args s r) I P 2 [some (.ref (b + 202)), some (.int x1), some (.int x2), some (.int x3)] []) {x1 : Int32} {x2 : Int32} {x3 : Int32} {I : j_M} {r : Int32 × j_M}  (h : f_Pr_write_2b F kb2 x1 x2 x3 I = some r) : j_W p l e R s m args below meth c 4 g b n 0 0 (j_Qi g b n P below args s r) I P 2 [some (.ref (b + 202)), some (.int x1), some (.int x2), some (.int x3)] [] := by
  unfold f_Pr_write_2b at h
  refine j_iload_n X jd_Pr_write_2 rfl rfl ?_
  refine j_iload_n X jd_Pr_write_3 rfl rfl ?_
  refine j_icmp_ge (tgt := 47) X jd_Pr_write_4 rfl h (fun h => ?_) (fun h => ?_)
  · refine j_aload_n X jd_Pr_write_47 rfl rfl ?_
    refine j_get X jf_Pr_13 jk_9_1 js_202 (j_lt rfl hn) jd_Pr_write_48 ?_
    exact j_iret X rfl jd_Pr_write_51 h
  · refine j_aload_n X jd_Pr_write_7 rfl rfl ?_
    refine j_getr X jf_Pr_16 jk_9_2 js_202 (j_lt rfl hn) (jp_202_2 hF) jd_Pr_write_8 ?_
    refine j_aload_n X jd_Pr_write_11 rfl rfl ?_
    refine j_get X jf_Pr_7 jk_9_0 js_202 (j_lt rfl hn) jd_Pr_write_12 ?_
    refine j_bipush (v := 120) X jd_Pr_write_15 (by decide) ?_
    refine j_imul X jd_Pr_write_17 ?_
    refine j_aload_n X jd_Pr_write_18 rfl rfl ?_
    refine j_get X jf_Pr_13 jk_9_1 js_202 (j_lt rfl hn) jd_Pr_write_19 ?_
    refine j_iadd X jd_Pr_write_22 ?_
    refine j_iload_n X jd_Pr_write_23 rfl rfl ?_
    refine j_bipush (v := 8) X jd_Pr_write_24 (by decide) ?_
    refine j_iload_n X jd_Pr_write_26 rfl rfl ?_
    refine j_imul X jd_Pr_write_27 ?_
    refine j_ishr X jd_Pr_write_28 ?_
    refine j_i2b X jd_Pr_write_29 ?_
    refine j_bast X js_203 (j_lt rfl hn) jd_Pr_write_30 h (fun h => ?_)
    refine j_mem h (fun I1 h => ?_)
    refine j_aload_n X jd_Pr_write_31 rfl rfl ?_
    refine j_dup X jd_Pr_write_32 rfl ?_
    refine j_get X jf_Pr_13 jk_9_1 js_202 (j_lt rfl hn) jd_Pr_write_33 ?_
    refine j_iconst (v := 1) X jd_Pr_write_36 (by decide) ?_
    refine j_iadd X jd_Pr_write_37 ?_
    refine j_puti X jt_Pr jto_Pr jn_Pr jf_Pr_13 jk_9_1 js_202 (j_lt rfl hn) (Or.inl rfl) rfl jd_Pr_write_38 ?_
    refine j_mem h (fun I2 h => ?_)
    obtain ⟨v3, ev3, h⟩ := j_ex h
    refine j_iinc (v := v3) (lv' := [some (.ref (b + 202)), some (.int x1), some (.int x2), some (.int v3)]) X jd_Pr_write_41 rfl (by rw [ev3]; rfl) (by decide) rfl ?_
    refine j_goto (tgt := 2) X jd_Pr_write_44 rfl ?_
    exact hkb2 _ _ _ _ _ h
set_option maxRecDepth 100000 in
set_option maxHeartbeats 4000000 in
theorem k_Pr_write_2 {p : Program} {l : Launch} {e : Env} {R : Room} {s : State} {m : MethodId} {args : Array Value} {below : List Frame} {meth : Method} {c : Code} {g : j_G} {b n : Nat} {P : j_R} {F : Nat} (hF : j_Fx 0 260 P) (hn : 260 ≤ n) (X : j_X p R s m args meth c g b 0 jb_Pr_write 4 "PleasureGarden$Prices" (some .int))  {x1 : Int32} {x2 : Int32} {x3 : Int32} {I : j_M} {r : Int32 × j_M} (h : f_Pr_write_2 F x1 x2 x3 I = some r) : j_W p l e R s m args below meth c 4 g b n 0 0 (j_Qi g b n P below args s r) I P 2 [some (.ref (b + 202)), some (.int x1), some (.int x2), some (.int x3)] [] := by
  refine j_loop (G := fun (q : Int32 × Int32 × Int32 × j_M) (r : Int32 × j_M) => j_W p l e R s m args below meth c 4 g b n 0 0 (j_Qi g b n P below args s r) q.2.2.2 P 2 [some (.ref (b + 202)), some (.int (q.1)), some (.int (q.2.1)), some (.int (q.2.2.1))] []) ?_ F (x1, x2, x3, I) r h
  intro again hrec0 q r h
  exact k_Pr_write_2b hF hn X (fun x1 x2 x3 I r h => hrec0 (x1, x2, x3, I) r h)  h
set_option maxRecDepth 100000 in
set_option maxHeartbeats 4000000 in
theorem k_Pr_write {l : Launch} {g : j_G} {b n : Nat} {P : j_R} {F : Nat} (hF : j_Fx 0 260 P) (hn : 260 ≤ n) {x1 : Int32} {x2 : Int32} {I : j_M} {r : Int32 × j_M}  (h : f_Pr_write F x1 x2 I = some r) : j_Met l g b n P 0 jy_Pr_write jb_Pr_write 4 (some .int) [.ref (b + 202), .int x1, .int x2] I r.2 (some (.int r.1)) := by
  unfold f_Pr_write at h
  refine j_enter (plainFor_of_name (by decide)) (Nat.le_of_ble_eq_true rfl) [some (.ref (b + 202)), some (.int x1), some (.int x2), none] rfl ?_
  intro p e R s m args below meth c X0 hnm hRc hRs
  have X : j_X p R s m args meth c g b 0 jb_Pr_write 4 "PleasureGarden$Prices" (some .int) := X0
  clear X0
  refine j_iconst (v := 0) X jd_Pr_write_0 (by decide) ?_
  refine j_istore_n (lv' := [some (.ref (b + 202)), some (.int x1), some (.int x2), some (.int 0)]) X jd_Pr_write_1 rfl (by decide) rfl ?_
  exact k_Pr_write_2 hF hn X h
-- PleasureGarden$Prices.latest(III)I
theorem jd_Pr_latest_0 : decode jb_Pr_latest 0 = .ok (.aload_n 0, 1) := by decide +kernel
theorem jd_Pr_latest_1 : decode jb_Pr_latest 1 = .ok (.getfield 7, 3) := by decide +kernel
theorem jd_Pr_latest_4 : decode jb_Pr_latest 4 = .ok (.iconst 1, 1) := by decide +kernel
theorem jd_Pr_latest_5 : decode jb_Pr_latest 5 = .ok (.isub, 1) := by decide +kernel
theorem jd_Pr_latest_6 : decode jb_Pr_latest 6 = .ok (.istore 4, 2) := by decide +kernel
theorem jd_Pr_latest_8 : decode jb_Pr_latest 8 = .ok (.iload 4, 2) := by decide +kernel
theorem jd_Pr_latest_10 : decode jb_Pr_latest 10 = .ok (.ifCond .lt 45, 3) := by decide +kernel
theorem jd_Pr_latest_13 : decode jb_Pr_latest 13 = .ok (.aload_n 0, 1) := by decide +kernel
theorem jd_Pr_latest_14 : decode jb_Pr_latest 14 = .ok (.getfield 24, 3) := by decide +kernel
theorem jd_Pr_latest_17 : decode jb_Pr_latest 17 = .ok (.iload 4, 2) := by decide +kernel
theorem jd_Pr_latest_19 : decode jb_Pr_latest 19 = .ok (.iaload, 1) := by decide +kernel
theorem jd_Pr_latest_20 : decode jb_Pr_latest 20 = .ok (.iload_n 1, 1) := by decide +kernel
theorem jd_Pr_latest_21 : decode jb_Pr_latest 21 = .ok (.if_icmp .ne 28, 3) := by decide +kernel
theorem jd_Pr_latest_24 : decode jb_Pr_latest 24 = .ok (.aload_n 0, 1) := by decide +kernel
theorem jd_Pr_latest_25 : decode jb_Pr_latest 25 = .ok (.getfield 30, 3) := by decide +kernel
theorem jd_Pr_latest_28 : decode jb_Pr_latest 28 = .ok (.iload 4, 2) := by decide +kernel
theorem jd_Pr_latest_30 : decode jb_Pr_latest 30 = .ok (.iaload, 1) := by decide +kernel
theorem jd_Pr_latest_31 : decode jb_Pr_latest 31 = .ok (.iload_n 3, 1) := by decide +kernel
theorem jd_Pr_latest_32 : decode jb_Pr_latest 32 = .ok (.if_icmp .gt 17, 3) := by decide +kernel
theorem jd_Pr_latest_35 : decode jb_Pr_latest 35 = .ok (.aload_n 0, 1) := by decide +kernel
theorem jd_Pr_latest_36 : decode jb_Pr_latest 36 = .ok (.getfield 27, 3) := by decide +kernel
theorem jd_Pr_latest_39 : decode jb_Pr_latest 39 = .ok (.iload 4, 2) := by decide +kernel
theorem jd_Pr_latest_41 : decode jb_Pr_latest 41 = .ok (.iaload, 1) := by decide +kernel
theorem jd_Pr_latest_42 : decode jb_Pr_latest 42 = .ok (.iload_n 2, 1) := by decide +kernel
theorem jd_Pr_latest_43 : decode jb_Pr_latest 43 = .ok (.if_icmp .gt 6, 3) := by decide +kernel
theorem jd_Pr_latest_46 : decode jb_Pr_latest 46 = .ok (.iload 4, 2) := by decide +kernel
theorem jd_Pr_latest_48 : decode jb_Pr_latest 48 = .ok (.ireturn, 1) := by decide +kernel
theorem jd_Pr_latest_49 : decode jb_Pr_latest 49 = .ok (.iinc 4 (-1), 3) := by decide +kernel
theorem jd_Pr_latest_52 : decode jb_Pr_latest 52 = .ok (.goto (-44), 3) := by decide +kernel
theorem jd_Pr_latest_55 : decode jb_Pr_latest 55 = .ok (.iconst (-1), 1) := by decide +kernel
theorem jd_Pr_latest_56 : decode jb_Pr_latest 56 = .ok (.ireturn, 1) := by decide +kernel
def f_Pr_latest_49 (F : Nat) (kb8 : Int32 → Int32 → Int32 → Int32 → j_M → Option (Int32 × j_M)) (x1 : Int32) (x2 : Int32) (x3 : Int32) (x4 : Int32) (I : j_M) : Option (Int32 × j_M) := j_let (x4 + (-1)) (fun v1 => kb8 x1 x2 x3 v1 I)
def f_Pr_latest_8b (F : Nat) (kb8 : Int32 → Int32 → Int32 → Int32 → j_M → Option (Int32 × j_M)) (x1 : Int32) (x2 : Int32) (x3 : Int32) (x4 : Int32) (I : j_M) : Option (Int32 × j_M) := (if x4 < 0 then some ((-1), I) else (if j_ok x4 30 = true then (if (I 205 (j_ix x4)) = x1 then (if j_ok x4 30 = true then (if x3 < (I 207 (j_ix x4)) then f_Pr_latest_49 F kb8 x1 x2 x3 x4 I else (if j_ok x4 30 = true then (if x2 < (I 206 (j_ix x4)) then f_Pr_latest_49 F kb8 x1 x2 x3 x4 I else some (x4, I)) else none)) else none) else f_Pr_latest_49 F kb8 x1 x2 x3 x4 I) else none))
def f_Pr_latest_8 (F : Nat)  (x1 : Int32) (x2 : Int32) (x3 : Int32) (x4 : Int32) (I : j_M) : Option (Int32 × j_M) := j_it (fun (again : Int32 × Int32 × Int32 × Int32 × j_M → Option (Int32 × j_M)) (q : Int32 × Int32 × Int32 × Int32 × j_M) => f_Pr_latest_8b F  (fun x1 x2 x3 x4 I => again (x1, x2, x3, x4, I))  q.1 q.2.1 q.2.2.1 q.2.2.2.1 q.2.2.2.2) F (x1, x2, x3, x4, I)
def f_Pr_latest (F : Nat) (x1 : Int32) (x2 : Int32) (x3 : Int32) (I : j_M) : Option (Int32 × j_M) := j_let ((I 202 0) - 1) (fun v2 => f_Pr_latest_8 F x1 x2 x3 v2 I)
set_option maxRecDepth 100000 in
set_option maxHeartbeats 4000000 in
theorem k_Pr_latest_49 {p : Program} {l : Launch} {e : Env} {R : Room} {s : State} {m : MethodId} {args : Array Value} {below : List Frame} {meth : Method} {c : Code} {g : j_G} {b n : Nat} {P : j_R} {F : Nat} (hF : j_Fx 0 260 P) (hn : 260 ≤ n) (X : j_X p R s m args meth c g b 0 jb_Pr_latest 5 "PleasureGarden$Prices" (some .int)) {kb8 : Int32 → Int32 → Int32 → Int32 → j_M → Option (Int32 × j_M)} (hkb8 : ∀ (x1 : Int32) (x2 : Int32) (x3 : Int32) (x4 : Int32) (I : j_M) (r : Int32 × j_M), kb8 x1 x2 x3 x4 I = some r → j_W p l e R s m args below meth c 5 g b n 0 0 (j_Qi g b n P below args s r) I P 8 [some (.ref (b + 202)), some (.int x1), some (.int x2), some (.int x3), some (.int x4)] []) {x1 : Int32} {x2 : Int32} {x3 : Int32} {x4 : Int32} {I : j_M} {r : Int32 × j_M}  (h : f_Pr_latest_49 F kb8 x1 x2 x3 x4 I = some r) : j_W p l e R s m args below meth c 5 g b n 0 0 (j_Qi g b n P below args s r) I P 49 [some (.ref (b + 202)), some (.int x1), some (.int x2), some (.int x3), some (.int x4)] [] := by
  unfold f_Pr_latest_49 at h
  obtain ⟨v1, ev1, h⟩ := j_ex h
  refine j_iinc (v := v1) (lv' := [some (.ref (b + 202)), some (.int x1), some (.int x2), some (.int x3), some (.int v1)]) X jd_Pr_latest_49 rfl (by rw [ev1]; rfl) (by decide) rfl ?_
  refine j_goto (tgt := 8) X jd_Pr_latest_52 rfl ?_
  exact hkb8 _ _ _ _ _ _ h
set_option maxRecDepth 100000 in
set_option maxHeartbeats 4000000 in
theorem k_Pr_latest_8b {p : Program} {l : Launch} {e : Env} {R : Room} {s : State} {m : MethodId} {args : Array Value} {below : List Frame} {meth : Method} {c : Code} {g : j_G} {b n : Nat} {P : j_R} {F : Nat} (hF : j_Fx 0 260 P) (hn : 260 ≤ n) (X : j_X p R s m args meth c g b 0 jb_Pr_latest 5 "PleasureGarden$Prices" (some .int)) {kb8 : Int32 → Int32 → Int32 → Int32 → j_M → Option (Int32 × j_M)} (hkb8 : ∀ (x1 : Int32) (x2 : Int32) (x3 : Int32) (x4 : Int32) (I : j_M) (r : Int32 × j_M), kb8 x1 x2 x3 x4 I = some r → j_W p l e R s m args below meth c 5 g b n 0 0 (j_Qi g b n P below args s r) I P 8 [some (.ref (b + 202)), some (.int x1), some (.int x2), some (.int x3), some (.int x4)] []) {x1 : Int32} {x2 : Int32} {x3 : Int32} {x4 : Int32} {I : j_M} {r : Int32 × j_M}  (h : f_Pr_latest_8b F kb8 x1 x2 x3 x4 I = some r) : j_W p l e R s m args below meth c 5 g b n 0 0 (j_Qi g b n P below args s r) I P 8 [some (.ref (b + 202)), some (.int x1), some (.int x2), some (.int x3), some (.int x4)] [] := by
  unfold f_Pr_latest_8b at h
  refine j_iload X jd_Pr_latest_8 rfl ?_
  refine j_if_lt (tgt := 55) X jd_Pr_latest_10 rfl h (fun h => ?_) (fun h => ?_)
  · refine j_iconst (v := (-1)) X jd_Pr_latest_55 (by decide) ?_
    exact j_iret X rfl jd_Pr_latest_56 h
  · refine j_aload_n X jd_Pr_latest_13 rfl rfl ?_
    refine j_getr X jf_Pr_24 jk_9_4 js_202 (j_lt rfl hn) (jp_202_4 hF) jd_Pr_latest_14 ?_
    refine j_iload X jd_Pr_latest_17 rfl ?_
    refine j_iald X js_205 (j_lt rfl hn) jd_Pr_latest_19 h (fun _ h => ?_)
    refine j_iload_n X jd_Pr_latest_20 rfl rfl ?_
    refine j_icmp_ne (tgt := 49) X jd_Pr_latest_21 rfl h (fun h => ?_) (fun h => ?_)
    · refine j_aload_n X jd_Pr_latest_24 rfl rfl ?_
      refine j_getr X jf_Pr_30 jk_9_6 js_202 (j_lt rfl hn) (jp_202_6 hF) jd_Pr_latest_25 ?_
      refine j_iload X jd_Pr_latest_28 rfl ?_
      refine j_iald X js_207 (j_lt rfl hn) jd_Pr_latest_30 h (fun _ h => ?_)
      refine j_iload_n X jd_Pr_latest_31 rfl rfl ?_
      refine j_icmp_gt (tgt := 49) X jd_Pr_latest_32 rfl h (fun h => ?_) (fun h => ?_)
      · exact k_Pr_latest_49 hF hn X hkb8 h
      · refine j_aload_n X jd_Pr_latest_35 rfl rfl ?_
        refine j_getr X jf_Pr_27 jk_9_5 js_202 (j_lt rfl hn) (jp_202_5 hF) jd_Pr_latest_36 ?_
        refine j_iload X jd_Pr_latest_39 rfl ?_
        refine j_iald X js_206 (j_lt rfl hn) jd_Pr_latest_41 h (fun _ h => ?_)
        refine j_iload_n X jd_Pr_latest_42 rfl rfl ?_
        refine j_icmp_gt (tgt := 49) X jd_Pr_latest_43 rfl h (fun h => ?_) (fun h => ?_)
        · exact k_Pr_latest_49 hF hn X hkb8 h
        · refine j_iload X jd_Pr_latest_46 rfl ?_
          exact j_iret X rfl jd_Pr_latest_48 h
    · exact k_Pr_latest_49 hF hn X hkb8 h
set_option maxRecDepth 100000 in
set_option maxHeartbeats 4000000 in
theorem k_Pr_latest_8 {p : Program} {l : Launch} {e : Env} {R : Room} {s : State} {m : MethodId} {args : Array Value} {below : List Frame} {meth : Method} {c : Code} {g : j_G} {b n : Nat} {P : j_R} {F : Nat} (hF : j_Fx 0 260 P) (hn : 260 ≤ n) (X : j_X p R s m args meth c g b 0 jb_Pr_latest 5 "PleasureGarden$Prices" (some .int))  {x1 : Int32} {x2 : Int32} {x3 : Int32} {x4 : Int32} {I : j_M} {r : Int32 × j_M} (h : f_Pr_latest_8 F x1 x2 x3 x4 I = some r) : j_W p l e R s m args below meth c 5 g b n 0 0 (j_Qi g b n P below args s r) I P 8 [some (.ref (b + 202)), some (.int x1), some (.int x2), some (.int x3), some (.int x4)] [] := by
  refine j_loop (G := fun (q : Int32 × Int32 × Int32 × Int32 × j_M) (r : Int32 × j_M) => j_W p l e R s m args below meth c 5 g b n 0 0 (j_Qi g b n P below args s r) q.2.2.2.2 P 8 [some (.ref (b + 202)), some (.int (q.1)), some (.int (q.2.1)), some (.int (q.2.2.1)), some (.int (q.2.2.2.1))] []) ?_ F (x1, x2, x3, x4, I) r h
  intro again hrec0 q r h
  exact k_Pr_latest_8b hF hn X (fun x1 x2 x3 x4 I r h => hrec0 (x1, x2, x3, x4, I) r h)  h
set_option maxRecDepth 100000 in
set_option maxHeartbeats 4000000 in
theorem k_Pr_latest {l : Launch} {g : j_G} {b n : Nat} {P : j_R} {F : Nat} (hF : j_Fx 0 260 P) (hn : 260 ≤ n) {x1 : Int32} {x2 : Int32} {x3 : Int32} {I : j_M} {r : Int32 × j_M}  (h : f_Pr_latest F x1 x2 x3 I = some r) : j_Met l g b n P 0 jy_Pr_latest jb_Pr_latest 5 (some .int) [.ref (b + 202), .int x1, .int x2, .int x3] I r.2 (some (.int r.1)) := by
  unfold f_Pr_latest at h
  refine j_enter (plainFor_of_name (by decide)) (Nat.le_of_ble_eq_true rfl) [some (.ref (b + 202)), some (.int x1), some (.int x2), some (.int x3), none] rfl ?_
  intro p e R s m args below meth c X0 hnm hRc hRs
  have X : j_X p R s m args meth c g b 0 jb_Pr_latest 5 "PleasureGarden$Prices" (some .int) := X0
  clear X0
  refine j_aload_n X jd_Pr_latest_0 rfl rfl ?_
  refine j_get X jf_Pr_7 jk_9_0 js_202 (j_lt rfl hn) jd_Pr_latest_1 ?_
  refine j_iconst (v := 1) X jd_Pr_latest_4 (by decide) ?_
  refine j_isub X jd_Pr_latest_5 ?_
  refine j_nm h (fun v2 h => ?_)
  refine j_istore (lv' := [some (.ref (b + 202)), some (.int x1), some (.int x2), some (.int x3), some (.int v2)]) X jd_Pr_latest_6 (by decide) rfl ?_
  exact k_Pr_latest_8 hF hn X h
-- PleasureGarden$Ledger.keep(III)V
theorem jd_Le_keep_0 : decode jb_Le_keep 0 = .ok (.aload_n 0, 1) := by decide +kernel
theorem jd_Le_keep_1 : decode jb_Le_keep 1 = .ok (.getfield 9, 3) := by decide +kernel
theorem jd_Le_keep_4 : decode jb_Le_keep 4 = .ok (.sipush 200, 3) := by decide +kernel
theorem jd_Le_keep_7 : decode jb_Le_keep 7 = .ok (.if_icmp .ge 43, 3) := by decide +kernel
theorem jd_Le_keep_10 : decode jb_Le_keep 10 = .ok (.aload_n 0, 1) := by decide +kernel
theorem jd_Le_keep_11 : decode jb_Le_keep 11 = .ok (.getfield 15, 3) := by decide +kernel
theorem jd_Le_keep_14 : decode jb_Le_keep 14 = .ok (.aload_n 0, 1) := by decide +kernel
theorem jd_Le_keep_15 : decode jb_Le_keep 15 = .ok (.getfield 9, 3) := by decide +kernel
theorem jd_Le_keep_18 : decode jb_Le_keep 18 = .ok (.iload_n 1, 1) := by decide +kernel
theorem jd_Le_keep_19 : decode jb_Le_keep 19 = .ok (.iastore, 1) := by decide +kernel
theorem jd_Le_keep_20 : decode jb_Le_keep 20 = .ok (.aload_n 0, 1) := by decide +kernel
theorem jd_Le_keep_21 : decode jb_Le_keep 21 = .ok (.getfield 19, 3) := by decide +kernel
theorem jd_Le_keep_24 : decode jb_Le_keep 24 = .ok (.aload_n 0, 1) := by decide +kernel
theorem jd_Le_keep_25 : decode jb_Le_keep 25 = .ok (.getfield 9, 3) := by decide +kernel
theorem jd_Le_keep_28 : decode jb_Le_keep 28 = .ok (.iload_n 2, 1) := by decide +kernel
theorem jd_Le_keep_29 : decode jb_Le_keep 29 = .ok (.iastore, 1) := by decide +kernel
theorem jd_Le_keep_30 : decode jb_Le_keep 30 = .ok (.aload_n 0, 1) := by decide +kernel
theorem jd_Le_keep_31 : decode jb_Le_keep 31 = .ok (.getfield 22, 3) := by decide +kernel
theorem jd_Le_keep_34 : decode jb_Le_keep 34 = .ok (.aload_n 0, 1) := by decide +kernel
theorem jd_Le_keep_35 : decode jb_Le_keep 35 = .ok (.getfield 9, 3) := by decide +kernel
theorem jd_Le_keep_38 : decode jb_Le_keep 38 = .ok (.iload_n 3, 1) := by decide +kernel
theorem jd_Le_keep_39 : decode jb_Le_keep 39 = .ok (.iastore, 1) := by decide +kernel
theorem jd_Le_keep_40 : decode jb_Le_keep 40 = .ok (.aload_n 0, 1) := by decide +kernel
theorem jd_Le_keep_41 : decode jb_Le_keep 41 = .ok (.dup, 1) := by decide +kernel
theorem jd_Le_keep_42 : decode jb_Le_keep 42 = .ok (.getfield 9, 3) := by decide +kernel
theorem jd_Le_keep_45 : decode jb_Le_keep 45 = .ok (.iconst 1, 1) := by decide +kernel
theorem jd_Le_keep_46 : decode jb_Le_keep 46 = .ok (.iadd, 1) := by decide +kernel
theorem jd_Le_keep_47 : decode jb_Le_keep 47 = .ok (.putfield 9, 3) := by decide +kernel
theorem jd_Le_keep_50 : decode jb_Le_keep 50 = .ok (.return_, 1) := by decide +kernel
def f_Le_keep (F : Nat) (x1 : Int32) (x2 : Int32) (x3 : Int32) (I : j_M) : Option (Int32 × j_M) := (if 200 ≤ (I 211 0) then some (0, I) else (if j_ok (I 211 0) 200 = true then j_let (j_wr I 212 (j_ix (I 211 0)) x1) (fun I1 => (if j_ok (I1 211 0) 200 = true then j_let (j_wr I1 213 (j_ix (I1 211 0)) x2) (fun I2 => (if j_ok (I2 211 0) 200 = true then j_let (j_wr I2 214 (j_ix (I2 211 0)) x3) (fun I3 => j_let (j_wr I3 211 0 ((I3 211 0) + 1)) (fun I4 => some (0, I4))) else none)) else none)) else none))
set_option maxRecDepth 100000 in
set_option maxHeartbeats 4000000 in
theorem k_Le_keep {l : Launch} {g : j_G} {b n : Nat} {P : j_R} {F : Nat} (hF : j_Fx 0 260 P) (hn : 260 ≤ n) {x1 : Int32} {x2 : Int32} {x3 : Int32} {I : j_M} {r : Int32 × j_M}  (h : f_Le_keep F x1 x2 x3 I = some r) : j_Met l g b n P 0 jy_Le_keep jb_Le_keep 4 none [.ref (b + 211), .int x1, .int x2, .int x3] I r.2 none := by
  unfold f_Le_keep at h
  refine j_enter (plainFor_of_name (by decide)) (Nat.le_of_ble_eq_true rfl) [some (.ref (b + 211)), some (.int x1), some (.int x2), some (.int x3)] rfl ?_
  intro p e R s m args below meth c X0 hnm hRc hRs
  have X : j_X p R s m args meth c g b 0 jb_Le_keep 4 "PleasureGarden$Ledger" none := X0
  clear X0
  refine j_aload_n X jd_Le_keep_0 rfl rfl ?_
  refine j_get X jf_Le_9 jk_11_0 js_211 (j_lt rfl hn) jd_Le_keep_1 ?_
  refine j_sipush (v := 200) X jd_Le_keep_4 (by decide) ?_
  refine j_icmp_ge (tgt := 50) X jd_Le_keep_7 rfl h (fun h => ?_) (fun h => ?_)
  · exact j_vret X rfl jd_Le_keep_50 h
  · refine j_aload_n X jd_Le_keep_10 rfl rfl ?_
    refine j_getr X jf_Le_15 jk_11_1 js_211 (j_lt rfl hn) (jp_211_1 hF) jd_Le_keep_11 ?_
    refine j_aload_n X jd_Le_keep_14 rfl rfl ?_
    refine j_get X jf_Le_9 jk_11_0 js_211 (j_lt rfl hn) jd_Le_keep_15 ?_
    refine j_iload_n X jd_Le_keep_18 rfl rfl ?_
    refine j_iast X js_212 (j_lt rfl hn) jd_Le_keep_19 h (fun h => ?_)
    refine j_mem h (fun I1 h => ?_)
    refine j_aload_n X jd_Le_keep_20 rfl rfl ?_
    refine j_getr X jf_Le_19 jk_11_2 js_211 (j_lt rfl hn) (jp_211_2 hF) jd_Le_keep_21 ?_
    refine j_aload_n X jd_Le_keep_24 rfl rfl ?_
    refine j_get X jf_Le_9 jk_11_0 js_211 (j_lt rfl hn) jd_Le_keep_25 ?_
    refine j_iload_n X jd_Le_keep_28 rfl rfl ?_
    refine j_iast X js_213 (j_lt rfl hn) jd_Le_keep_29 h (fun h => ?_)
    refine j_mem h (fun I2 h => ?_)
    refine j_aload_n X jd_Le_keep_30 rfl rfl ?_
    refine j_getr X jf_Le_22 jk_11_3 js_211 (j_lt rfl hn) (jp_211_3 hF) jd_Le_keep_31 ?_
    refine j_aload_n X jd_Le_keep_34 rfl rfl ?_
    refine j_get X jf_Le_9 jk_11_0 js_211 (j_lt rfl hn) jd_Le_keep_35 ?_
    refine j_iload_n X jd_Le_keep_38 rfl rfl ?_
    refine j_iast X js_214 (j_lt rfl hn) jd_Le_keep_39 h (fun h => ?_)
    refine j_mem h (fun I3 h => ?_)
    refine j_aload_n X jd_Le_keep_40 rfl rfl ?_
    refine j_dup X jd_Le_keep_41 rfl ?_
    refine j_get X jf_Le_9 jk_11_0 js_211 (j_lt rfl hn) jd_Le_keep_42 ?_
    refine j_iconst (v := 1) X jd_Le_keep_45 (by decide) ?_
    refine j_iadd X jd_Le_keep_46 ?_
    refine j_puti X jt_Le jto_Le jn_Le jf_Le_9 jk_11_0 js_211 (j_lt rfl hn) (Or.inl rfl) rfl jd_Le_keep_47 ?_
    refine j_mem h (fun I4 h => ?_)
    exact j_vret X rfl jd_Le_keep_50 h
-- PleasureGarden$Guests.add(III)LPleasureGarden$Party;
theorem jd_Gu_add_0 : decode jb_Gu_add 0 = .ok (.aload_n 0, 1) := by decide +kernel
theorem jd_Gu_add_1 : decode jb_Gu_add 1 = .ok (.getfield 15, 3) := by decide +kernel
theorem jd_Gu_add_4 : decode jb_Gu_add 4 = .ok (.aload_n 0, 1) := by decide +kernel
theorem jd_Gu_add_5 : decode jb_Gu_add 5 = .ok (.getfield 7, 3) := by decide +kernel
theorem jd_Gu_add_8 : decode jb_Gu_add 8 = .ok (.aaload, 1) := by decide +kernel
theorem jd_Gu_add_9 : decode jb_Gu_add 9 = .ok (.astore 4, 2) := by decide +kernel
theorem jd_Gu_add_11 : decode jb_Gu_add 11 = .ok (.aload 4, 2) := by decide +kernel
theorem jd_Gu_add_13 : decode jb_Gu_add 13 = .ok (.iload_n 1, 1) := by decide +kernel
theorem jd_Gu_add_14 : decode jb_Gu_add 14 = .ok (.iload_n 2, 1) := by decide +kernel
theorem jd_Gu_add_15 : decode jb_Gu_add 15 = .ok (.iload_n 3, 1) := by decide +kernel
theorem jd_Gu_add_16 : decode jb_Gu_add 16 = .ok (.invokevirtual 22, 3) := by decide +kernel
theorem jd_Gu_add_19 : decode jb_Gu_add 19 = .ok (.aload_n 0, 1) := by decide +kernel
theorem jd_Gu_add_20 : decode jb_Gu_add 20 = .ok (.dup, 1) := by decide +kernel
theorem jd_Gu_add_21 : decode jb_Gu_add 21 = .ok (.getfield 7, 3) := by decide +kernel
theorem jd_Gu_add_24 : decode jb_Gu_add 24 = .ok (.iconst 1, 1) := by decide +kernel
theorem jd_Gu_add_25 : decode jb_Gu_add 25 = .ok (.iadd, 1) := by decide +kernel
theorem jd_Gu_add_26 : decode jb_Gu_add 26 = .ok (.putfield 7, 3) := by decide +kernel
theorem jd_Gu_add_29 : decode jb_Gu_add 29 = .ok (.aload 4, 2) := by decide +kernel
theorem jd_Gu_add_31 : decode jb_Gu_add 31 = .ok (.areturn, 1) := by decide +kernel
def f_Gu_add (F : Nat) (x1 : Int32) (x2 : Int32) (x3 : Int32) (I : j_M) : Option (Nat × j_M) := (if j_ok (I 41 0) 100 = true then j_bd (f_Pa_begin F (j_ix (I 41 0)) x1 x2 x3 I) (fun v2 I3 => j_let (j_wr I3 41 0 ((I3 41 0) + 1)) (fun I4 => some (j_ix (I 41 0), I4))) else none)
set_option maxRecDepth 100000 in
set_option maxHeartbeats 4000000 in
theorem k_Gu_add {l : Launch} {g : j_G} {b n : Nat} {P : j_R} {F : Nat} (hF : j_Fx 0 260 P) (hn : 260 ≤ n) {x1 : Int32} {x2 : Int32} {x3 : Int32} {I : j_M} {r : Nat × j_M}  (h : f_Gu_add F x1 x2 x3 I = some r) : j_Met l g b n P 1 jy_Gu_add jb_Gu_add 5 (some (.object "PleasureGarden$Party")) [.ref (b + 41), .int x1, .int x2, .int x3] I r.2 (some (.ref (b + (43 + r.1)))) := by
  unfold f_Gu_add at h
  refine j_enter (plainFor_of_name (by decide)) (Nat.le_of_ble_eq_true rfl) [some (.ref (b + 41)), some (.int x1), some (.int x2), some (.int x3), none] rfl ?_
  intro p e R s m args below meth c X0 hnm hRc hRs
  have X : j_X p R s m args meth c g b 1 jb_Gu_add 5 "PleasureGarden$Guests" (some (.object "PleasureGarden$Party")) := X0
  clear X0
  refine j_aload_n X jd_Gu_add_0 rfl rfl ?_
  refine j_getr X jf_Gu_15 jk_3_1 js_41 (j_lt rfl hn) (jp_41_1 hF) jd_Gu_add_1 ?_
  refine j_aload_n X jd_Gu_add_4 rfl rfl ?_
  refine j_get X jf_Gu_7 jk_3_0 js_41 (j_lt rfl hn) jd_Gu_add_5 ?_
  refine j_aald X rfl rfl js_42 (j_lt rfl hn) jd_Gu_add_8 (fun q => ja_42 hF _ (j_ok_lt q)) h (fun hb1 h => ?_)
  refine j_astore (lv' := [some (.ref (b + 41)), some (.int x1), some (.int x2), some (.int x3), some (.ref (b + (43 + (j_ix (I 41 0)))))]) X jd_Gu_add_9 (by decide) rfl ?_
  refine j_aload X jd_Gu_add_11 rfl ?_
  refine j_iload_n X jd_Gu_add_13 rfl rfl ?_
  refine j_iload_n X jd_Gu_add_14 rfl rfl ?_
  refine j_iload_n X jd_Gu_add_15 rfl rfl ?_
  refine j_callVv (As := [.int x1, .int x2, .int x3]) (st := []) (c0 := (43 + (j_ix (I 41 0)))) X h jc_Pa (jsp_43 (j_ok_lt hb1)) (j_ltq (j_ok_lt hb1) rfl hn) ⟨jqc_Pa_begin, jqi_Pa_begin, jqv_Pa_begin, jqn_Pa⟩ jlm_Gu_22 jh_Pa_begin rfl (by decide) (by decide) (Nat.le_of_ble_eq_true rfl) ⟨Nat.zero_le _, Nat.zero_le _⟩ (fun v0 I0 h => k_Pa_begin (r := (v0, I0)) hF hn (j_ok_lt hb1) h) jd_Gu_add_16 rfl (fun v2 I3 h => ?_)
  refine j_aload_n X jd_Gu_add_19 rfl rfl ?_
  refine j_dup X jd_Gu_add_20 rfl ?_
  refine j_get X jf_Gu_7 jk_3_0 js_41 (j_lt rfl hn) jd_Gu_add_21 ?_
  refine j_iconst (v := 1) X jd_Gu_add_24 (by decide) ?_
  refine j_iadd X jd_Gu_add_25 ?_
  refine j_puti X jt_Gu jto_Gu jn_Gu jf_Gu_7 jk_3_0 js_41 (j_lt rfl hn) (Or.inl rfl) rfl jd_Gu_add_26 ?_
  refine j_mem h (fun I4 h => ?_)
  refine j_aload X jd_Gu_add_29 rfl ?_
  exact j_aret X 43 rfl jd_Gu_add_31 h
-- PleasureGarden$Guests.showsTwice(I)Z
theorem jd_Gu_showsTwice_0 : decode jb_Gu_showsTwice 0 = .ok (.iconst 0, 1) := by decide +kernel
theorem jd_Gu_showsTwice_1 : decode jb_Gu_showsTwice 1 = .ok (.istore_n 2, 1) := by decide +kernel
theorem jd_Gu_showsTwice_2 : decode jb_Gu_showsTwice 2 = .ok (.iload_n 2, 1) := by decide +kernel
theorem jd_Gu_showsTwice_3 : decode jb_Gu_showsTwice 3 = .ok (.aload_n 0, 1) := by decide +kernel
theorem jd_Gu_showsTwice_4 : decode jb_Gu_showsTwice 4 = .ok (.getfield 7, 3) := by decide +kernel
theorem jd_Gu_showsTwice_7 : decode jb_Gu_showsTwice 7 = .ok (.if_icmp .ge 36, 3) := by decide +kernel
theorem jd_Gu_showsTwice_10 : decode jb_Gu_showsTwice 10 = .ok (.aload_n 0, 1) := by decide +kernel
theorem jd_Gu_showsTwice_11 : decode jb_Gu_showsTwice 11 = .ok (.getfield 15, 3) := by decide +kernel
theorem jd_Gu_showsTwice_14 : decode jb_Gu_showsTwice 14 = .ok (.iload_n 2, 1) := by decide +kernel
theorem jd_Gu_showsTwice_15 : decode jb_Gu_showsTwice 15 = .ok (.aaload, 1) := by decide +kernel
theorem jd_Gu_showsTwice_16 : decode jb_Gu_showsTwice 16 = .ok (.invokevirtual 26, 3) := by decide +kernel
theorem jd_Gu_showsTwice_19 : decode jb_Gu_showsTwice 19 = .ok (.ifCond .eq 18, 3) := by decide +kernel
theorem jd_Gu_showsTwice_22 : decode jb_Gu_showsTwice 22 = .ok (.aload_n 0, 1) := by decide +kernel
theorem jd_Gu_showsTwice_23 : decode jb_Gu_showsTwice 23 = .ok (.getfield 15, 3) := by decide +kernel
theorem jd_Gu_showsTwice_26 : decode jb_Gu_showsTwice 26 = .ok (.iload_n 2, 1) := by decide +kernel
theorem jd_Gu_showsTwice_27 : decode jb_Gu_showsTwice 27 = .ok (.aaload, 1) := by decide +kernel
theorem jd_Gu_showsTwice_28 : decode jb_Gu_showsTwice 28 = .ok (.getfield 30, 3) := by decide +kernel
theorem jd_Gu_showsTwice_31 : decode jb_Gu_showsTwice 31 = .ok (.iload_n 1, 1) := by decide +kernel
theorem jd_Gu_showsTwice_32 : decode jb_Gu_showsTwice 32 = .ok (.if_icmp .ne 5, 3) := by decide +kernel
theorem jd_Gu_showsTwice_35 : decode jb_Gu_showsTwice 35 = .ok (.iconst 1, 1) := by decide +kernel
theorem jd_Gu_showsTwice_36 : decode jb_Gu_showsTwice 36 = .ok (.ireturn, 1) := by decide +kernel
theorem jd_Gu_showsTwice_37 : decode jb_Gu_showsTwice 37 = .ok (.iinc 2 1, 3) := by decide +kernel
theorem jd_Gu_showsTwice_40 : decode jb_Gu_showsTwice 40 = .ok (.goto (-38), 3) := by decide +kernel
theorem jd_Gu_showsTwice_43 : decode jb_Gu_showsTwice 43 = .ok (.iconst 0, 1) := by decide +kernel
theorem jd_Gu_showsTwice_44 : decode jb_Gu_showsTwice 44 = .ok (.ireturn, 1) := by decide +kernel
def f_Gu_showsTwice_37 (F : Nat) (kb2 : Int32 → Int32 → j_M → Option (Int32 × j_M)) (x1 : Int32) (x2 : Int32) (I : j_M) : Option (Int32 × j_M) := j_let (x2 + 1) (fun v1 => kb2 x1 v1 I)
def f_Gu_showsTwice_2b (F : Nat) (kb2 : Int32 → Int32 → j_M → Option (Int32 × j_M)) (x1 : Int32) (x2 : Int32) (I : j_M) : Option (Int32 × j_M) := (if (I 41 0) ≤ x2 then some (0, I) else (if j_ok x2 100 = true then j_bd (f_Pa_isIn F (j_ix x2) I) (fun v3 I4 => (if v3 = 0 then f_Gu_showsTwice_37 F kb2 x1 x2 I4 else (if j_ok x2 100 = true then (if (I4 (43 + (j_ix x2)) 2) = x1 then some (1, I4) else f_Gu_showsTwice_37 F kb2 x1 x2 I4) else none))) else none))
def f_Gu_showsTwice_2 (F : Nat)  (x1 : Int32) (x2 : Int32) (I : j_M) : Option (Int32 × j_M) := j_it (fun (again : Int32 × Int32 × j_M → Option (Int32 × j_M)) (q : Int32 × Int32 × j_M) => f_Gu_showsTwice_2b F  (fun x1 x2 I => again (x1, x2, I))  q.1 q.2.1 q.2.2) F (x1, x2, I)
def f_Gu_showsTwice (F : Nat) (x1 : Int32) (I : j_M) : Option (Int32 × j_M) := f_Gu_showsTwice_2 F x1 0 I
set_option maxRecDepth 100000 in
set_option maxHeartbeats 4000000 in
theorem k_Gu_showsTwice_37 {p : Program} {l : Launch} {e : Env} {R : Room} {s : State} {m : MethodId} {args : Array Value} {below : List Frame} {meth : Method} {c : Code} {g : j_G} {b n : Nat} {P : j_R} {F : Nat} (hF : j_Fx 0 260 P) (hn : 260 ≤ n) (X : j_X p R s m args meth c g b 1 jb_Gu_showsTwice 3 "PleasureGarden$Guests" (some .boolean)) {kb2 : Int32 → Int32 → j_M → Option (Int32 × j_M)} (hkb2 : ∀ (x1 : Int32) (x2 : Int32) (I : j_M) (r : Int32 × j_M), kb2 x1 x2 I = some r → j_W p l e R s m args below meth c 3 g b n 0 0 (j_Qi g b n P below args s r) I P 2 [some (.ref (b + 41)), some (.int x1), some (.int x2)] []) {x1 : Int32} {x2 : Int32} {I : j_M} {r : Int32 × j_M}  (h : f_Gu_showsTwice_37 F kb2 x1 x2 I = some r) : j_W p l e R s m args below meth c 3 g b n 0 0 (j_Qi g b n P below args s r) I P 37 [some (.ref (b + 41)), some (.int x1), some (.int x2)] [] := by
  unfold f_Gu_showsTwice_37 at h
  obtain ⟨v1, ev1, h⟩ := j_ex h
  refine j_iinc (v := v1) (lv' := [some (.ref (b + 41)), some (.int x1), some (.int v1)]) X jd_Gu_showsTwice_37 rfl (by rw [ev1]; rfl) (by decide) rfl ?_
  refine j_goto (tgt := 2) X jd_Gu_showsTwice_40 rfl ?_
  exact hkb2 _ _ _ _ h
set_option maxRecDepth 100000 in
set_option maxHeartbeats 4000000 in
theorem k_Gu_showsTwice_2b {p : Program} {l : Launch} {e : Env} {R : Room} {s : State} {m : MethodId} {args : Array Value} {below : List Frame} {meth : Method} {c : Code} {g : j_G} {b n : Nat} {P : j_R} {F : Nat} (hF : j_Fx 0 260 P) (hn : 260 ≤ n) (X : j_X p R s m args meth c g b 1 jb_Gu_showsTwice 3 "PleasureGarden$Guests" (some .boolean)) {kb2 : Int32 → Int32 → j_M → Option (Int32 × j_M)} (hkb2 : ∀ (x1 : Int32) (x2 : Int32) (I : j_M) (r : Int32 × j_M), kb2 x1 x2 I = some r → j_W p l e R s m args below meth c 3 g b n 0 0 (j_Qi g b n P below args s r) I P 2 [some (.ref (b + 41)), some (.int x1), some (.int x2)] []) {x1 : Int32} {x2 : Int32} {I : j_M} {r : Int32 × j_M}  (h : f_Gu_showsTwice_2b F kb2 x1 x2 I = some r) : j_W p l e R s m args below meth c 3 g b n 0 0 (j_Qi g b n P below args s r) I P 2 [some (.ref (b + 41)), some (.int x1), some (.int x2)] [] := by
  unfold f_Gu_showsTwice_2b at h
  refine j_iload_n X jd_Gu_showsTwice_2 rfl rfl ?_
  refine j_aload_n X jd_Gu_showsTwice_3 rfl rfl ?_
  refine j_get X jf_Gu_7 jk_3_0 js_41 (j_lt rfl hn) jd_Gu_showsTwice_4 ?_
  refine j_icmp_ge (tgt := 43) X jd_Gu_showsTwice_7 rfl h (fun h => ?_) (fun h => ?_)
  · refine j_iconst (v := 0) X jd_Gu_showsTwice_43 (by decide) ?_
    exact j_zret X rfl (by decide) jd_Gu_showsTwice_44 h
  · refine j_aload_n X jd_Gu_showsTwice_10 rfl rfl ?_
    refine j_getr X jf_Gu_15 jk_3_1 js_41 (j_lt rfl hn) (jp_41_1 hF) jd_Gu_showsTwice_11 ?_
    refine j_iload_n X jd_Gu_showsTwice_14 rfl rfl ?_
    refine j_aald X rfl rfl js_42 (j_lt rfl hn) jd_Gu_showsTwice_15 (fun q => ja_42 hF _ (j_ok_lt q)) h (fun hb2 h => ?_)
    refine j_callVi (As := []) (st := []) (c0 := (43 + (j_ix x2))) X h jc_Pa (jsp_43 (j_ok_lt hb2)) (j_ltq (j_ok_lt hb2) rfl hn) ⟨jqc_Pa_isIn, jqi_Pa_isIn, jqv_Pa_isIn, jqn_Pa⟩ jlm_Gu_26 jh_Pa_isIn rfl (by decide) (by decide) (Nat.le_of_ble_eq_true rfl) ⟨Nat.zero_le _, Nat.zero_le _⟩ (fun v0 I0 h => k_Pa_isIn (r := (v0, I0)) hF hn (j_ok_lt hb2) h) jd_Gu_showsTwice_16 rfl (fun v3 I4 h => ?_)
    refine j_if_eq (tgt := 37) X jd_Gu_showsTwice_19 rfl h (fun h => ?_) (fun h => ?_)
    · exact k_Gu_showsTwice_37 hF hn X hkb2 h
    · refine j_aload_n X jd_Gu_showsTwice_22 rfl rfl ?_
      refine j_getr X jf_Gu_15 jk_3_1 js_41 (j_lt rfl hn) (jp_41_1 hF) jd_Gu_showsTwice_23 ?_
      refine j_iload_n X jd_Gu_showsTwice_26 rfl rfl ?_
      refine j_aald X rfl rfl js_42 (j_lt rfl hn) jd_Gu_showsTwice_27 (fun q => ja_42 hF _ (j_ok_lt q)) h (fun hb5 h => ?_)
      refine j_get X jf_Gu_30 jk_4_2 (jsp_43 (j_ok_lt hb5)) (j_ltq (j_ok_lt hb5) rfl hn) jd_Gu_showsTwice_28 ?_
      refine j_iload_n X jd_Gu_showsTwice_31 rfl rfl ?_
      refine j_icmp_ne (tgt := 37) X jd_Gu_showsTwice_32 rfl h (fun h => ?_) (fun h => ?_)
      · refine j_iconst (v := 1) X jd_Gu_showsTwice_35 (by decide) ?_
        exact j_zret X rfl (by decide) jd_Gu_showsTwice_36 h
      · exact k_Gu_showsTwice_37 hF hn X hkb2 h
set_option maxRecDepth 100000 in
set_option maxHeartbeats 4000000 in
theorem k_Gu_showsTwice_2 {p : Program} {l : Launch} {e : Env} {R : Room} {s : State} {m : MethodId} {args : Array Value} {below : List Frame} {meth : Method} {c : Code} {g : j_G} {b n : Nat} {P : j_R} {F : Nat} (hF : j_Fx 0 260 P) (hn : 260 ≤ n) (X : j_X p R s m args meth c g b 1 jb_Gu_showsTwice 3 "PleasureGarden$Guests" (some .boolean))  {x1 : Int32} {x2 : Int32} {I : j_M} {r : Int32 × j_M} (h : f_Gu_showsTwice_2 F x1 x2 I = some r) : j_W p l e R s m args below meth c 3 g b n 0 0 (j_Qi g b n P below args s r) I P 2 [some (.ref (b + 41)), some (.int x1), some (.int x2)] [] := by
  refine j_loop (G := fun (q : Int32 × Int32 × j_M) (r : Int32 × j_M) => j_W p l e R s m args below meth c 3 g b n 0 0 (j_Qi g b n P below args s r) q.2.2 P 2 [some (.ref (b + 41)), some (.int (q.1)), some (.int (q.2.1))] []) ?_ F (x1, x2, I) r h
  intro again hrec0 q r h
  exact k_Gu_showsTwice_2b hF hn X (fun x1 x2 I r h => hrec0 (x1, x2, I) r h)  h
set_option maxRecDepth 100000 in
set_option maxHeartbeats 4000000 in
theorem k_Gu_showsTwice {l : Launch} {g : j_G} {b n : Nat} {P : j_R} {F : Nat} (hF : j_Fx 0 260 P) (hn : 260 ≤ n) {x1 : Int32} {I : j_M} {r : Int32 × j_M}  (h : f_Gu_showsTwice F x1 I = some r) : j_Met l g b n P 1 jy_Gu_showsTwice jb_Gu_showsTwice 3 (some .boolean) [.ref (b + 41), .int x1] I r.2 (some (.int r.1)) := by
  unfold f_Gu_showsTwice at h
  refine j_enter (plainFor_of_name (by decide)) (Nat.le_of_ble_eq_true rfl) [some (.ref (b + 41)), some (.int x1), none] rfl ?_
  intro p e R s m args below meth c X0 hnm hRc hRs
  have X : j_X p R s m args meth c g b 1 jb_Gu_showsTwice 3 "PleasureGarden$Guests" (some .boolean) := X0
  clear X0
  refine j_iconst (v := 0) X jd_Gu_showsTwice_0 (by decide) ?_
  refine j_istore_n (lv' := [some (.ref (b + 41)), some (.int x1), some (.int 0)]) X jd_Gu_showsTwice_1 rfl (by decide) rfl ?_
  exact k_Gu_showsTwice_2 hF hn X h
-- PleasureGarden$Guests.headsIn()I
theorem jd_Gu_headsIn_0 : decode jb_Gu_headsIn 0 = .ok (.iconst 0, 1) := by decide +kernel
theorem jd_Gu_headsIn_1 : decode jb_Gu_headsIn 1 = .ok (.istore_n 1, 1) := by decide +kernel
theorem jd_Gu_headsIn_2 : decode jb_Gu_headsIn 2 = .ok (.iconst 0, 1) := by decide +kernel
theorem jd_Gu_headsIn_3 : decode jb_Gu_headsIn 3 = .ok (.istore_n 2, 1) := by decide +kernel
theorem jd_Gu_headsIn_4 : decode jb_Gu_headsIn 4 = .ok (.iload_n 2, 1) := by decide +kernel
theorem jd_Gu_headsIn_5 : decode jb_Gu_headsIn 5 = .ok (.aload_n 0, 1) := by decide +kernel
theorem jd_Gu_headsIn_6 : decode jb_Gu_headsIn 6 = .ok (.getfield 7, 3) := by decide +kernel
theorem jd_Gu_headsIn_9 : decode jb_Gu_headsIn 9 = .ok (.if_icmp .ge 33, 3) := by decide +kernel
theorem jd_Gu_headsIn_12 : decode jb_Gu_headsIn 12 = .ok (.aload_n 0, 1) := by decide +kernel
theorem jd_Gu_headsIn_13 : decode jb_Gu_headsIn 13 = .ok (.getfield 15, 3) := by decide +kernel
theorem jd_Gu_headsIn_16 : decode jb_Gu_headsIn 16 = .ok (.iload_n 2, 1) := by decide +kernel
theorem jd_Gu_headsIn_17 : decode jb_Gu_headsIn 17 = .ok (.aaload, 1) := by decide +kernel
theorem jd_Gu_headsIn_18 : decode jb_Gu_headsIn 18 = .ok (.invokevirtual 26, 3) := by decide +kernel
theorem jd_Gu_headsIn_21 : decode jb_Gu_headsIn 21 = .ok (.ifCond .eq 15, 3) := by decide +kernel
theorem jd_Gu_headsIn_24 : decode jb_Gu_headsIn 24 = .ok (.iload_n 1, 1) := by decide +kernel
theorem jd_Gu_headsIn_25 : decode jb_Gu_headsIn 25 = .ok (.aload_n 0, 1) := by decide +kernel
theorem jd_Gu_headsIn_26 : decode jb_Gu_headsIn 26 = .ok (.getfield 15, 3) := by decide +kernel
theorem jd_Gu_headsIn_29 : decode jb_Gu_headsIn 29 = .ok (.iload_n 2, 1) := by decide +kernel
theorem jd_Gu_headsIn_30 : decode jb_Gu_headsIn 30 = .ok (.aaload, 1) := by decide +kernel
theorem jd_Gu_headsIn_31 : decode jb_Gu_headsIn 31 = .ok (.getfield 39, 3) := by decide +kernel
theorem jd_Gu_headsIn_34 : decode jb_Gu_headsIn 34 = .ok (.iadd, 1) := by decide +kernel
theorem jd_Gu_headsIn_35 : decode jb_Gu_headsIn 35 = .ok (.istore_n 1, 1) := by decide +kernel
theorem jd_Gu_headsIn_36 : decode jb_Gu_headsIn 36 = .ok (.iinc 2 1, 3) := by decide +kernel
theorem jd_Gu_headsIn_39 : decode jb_Gu_headsIn 39 = .ok (.goto (-35), 3) := by decide +kernel
theorem jd_Gu_headsIn_42 : decode jb_Gu_headsIn 42 = .ok (.iload_n 1, 1) := by decide +kernel
theorem jd_Gu_headsIn_43 : decode jb_Gu_headsIn 43 = .ok (.ireturn, 1) := by decide +kernel
def f_Gu_headsIn_36 (F : Nat) (kb4 : Int32 → Int32 → j_M → Option (Int32 × j_M)) (x1 : Int32) (x2 : Int32) (I : j_M) : Option (Int32 × j_M) := j_let (x2 + 1) (fun v1 => kb4 x1 v1 I)
def f_Gu_headsIn_4b (F : Nat) (kb4 : Int32 → Int32 → j_M → Option (Int32 × j_M)) (x1 : Int32) (x2 : Int32) (I : j_M) : Option (Int32 × j_M) := (if (I 41 0) ≤ x2 then some (x1, I) else (if j_ok x2 100 = true then j_bd (f_Pa_isIn F (j_ix x2) I) (fun v3 I4 => (if v3 = 0 then f_Gu_headsIn_36 F kb4 x1 x2 I4 else (if j_ok x2 100 = true then j_let (x1 + (I4 (43 + (j_ix x2)) 1)) (fun v6 => f_Gu_headsIn_36 F kb4 v6 x2 I4) else none))) else none))
def f_Gu_headsIn_4 (F : Nat)  (x1 : Int32) (x2 : Int32) (I : j_M) : Option (Int32 × j_M) := j_it (fun (again : Int32 × Int32 × j_M → Option (Int32 × j_M)) (q : Int32 × Int32 × j_M) => f_Gu_headsIn_4b F  (fun x1 x2 I => again (x1, x2, I))  q.1 q.2.1 q.2.2) F (x1, x2, I)
def f_Gu_headsIn (F : Nat)  (I : j_M) : Option (Int32 × j_M) := f_Gu_headsIn_4 F 0 0 I
set_option maxRecDepth 100000 in
set_option maxHeartbeats 4000000 in
theorem k_Gu_headsIn_36 {p : Program} {l : Launch} {e : Env} {R : Room} {s : State} {m : MethodId} {args : Array Value} {below : List Frame} {meth : Method} {c : Code} {g : j_G} {b n : Nat} {P : j_R} {F : Nat} (hF : j_Fx 0 260 P) (hn : 260 ≤ n) (X : j_X p R s m args meth c g b 1 jb_Gu_headsIn 3 "PleasureGarden$Guests" (some .int)) {kb4 : Int32 → Int32 → j_M → Option (Int32 × j_M)} (hkb4 : ∀ (x1 : Int32) (x2 : Int32) (I : j_M) (r : Int32 × j_M), kb4 x1 x2 I = some r → j_W p l e R s m args below meth c 3 g b n 0 0 (j_Qi g b n P below args s r) I P 4 [some (.ref (b + 41)), some (.int x1), some (.int x2)] []) {x1 : Int32} {x2 : Int32} {I : j_M} {r : Int32 × j_M}  (h : f_Gu_headsIn_36 F kb4 x1 x2 I = some r) : j_W p l e R s m args below meth c 3 g b n 0 0 (j_Qi g b n P below args s r) I P 36 [some (.ref (b + 41)), some (.int x1), some (.int x2)] [] := by
  unfold f_Gu_headsIn_36 at h
  obtain ⟨v1, ev1, h⟩ := j_ex h
  refine j_iinc (v := v1) (lv' := [some (.ref (b + 41)), some (.int x1), some (.int v1)]) X jd_Gu_headsIn_36 rfl (by rw [ev1]; rfl) (by decide) rfl ?_
  refine j_goto (tgt := 4) X jd_Gu_headsIn_39 rfl ?_
  exact hkb4 _ _ _ _ h
set_option maxRecDepth 100000 in
set_option maxHeartbeats 4000000 in
theorem k_Gu_headsIn_4b {p : Program} {l : Launch} {e : Env} {R : Room} {s : State} {m : MethodId} {args : Array Value} {below : List Frame} {meth : Method} {c : Code} {g : j_G} {b n : Nat} {P : j_R} {F : Nat} (hF : j_Fx 0 260 P) (hn : 260 ≤ n) (X : j_X p R s m args meth c g b 1 jb_Gu_headsIn 3 "PleasureGarden$Guests" (some .int)) {kb4 : Int32 → Int32 → j_M → Option (Int32 × j_M)} (hkb4 : ∀ (x1 : Int32) (x2 : Int32) (I : j_M) (r : Int32 × j_M), kb4 x1 x2 I = some r → j_W p l e R s m args below meth c 3 g b n 0 0 (j_Qi g b n P below args s r) I P 4 [some (.ref (b + 41)), some (.int x1), some (.int x2)] []) {x1 : Int32} {x2 : Int32} {I : j_M} {r : Int32 × j_M}  (h : f_Gu_headsIn_4b F kb4 x1 x2 I = some r) : j_W p l e R s m args below meth c 3 g b n 0 0 (j_Qi g b n P below args s r) I P 4 [some (.ref (b + 41)), some (.int x1), some (.int x2)] [] := by
  unfold f_Gu_headsIn_4b at h
  refine j_iload_n X jd_Gu_headsIn_4 rfl rfl ?_
  refine j_aload_n X jd_Gu_headsIn_5 rfl rfl ?_
  refine j_get X jf_Gu_7 jk_3_0 js_41 (j_lt rfl hn) jd_Gu_headsIn_6 ?_
  refine j_icmp_ge (tgt := 42) X jd_Gu_headsIn_9 rfl h (fun h => ?_) (fun h => ?_)
  · refine j_iload_n X jd_Gu_headsIn_42 rfl rfl ?_
    exact j_iret X rfl jd_Gu_headsIn_43 h
  · refine j_aload_n X jd_Gu_headsIn_12 rfl rfl ?_
    refine j_getr X jf_Gu_15 jk_3_1 js_41 (j_lt rfl hn) (jp_41_1 hF) jd_Gu_headsIn_13 ?_
    refine j_iload_n X jd_Gu_headsIn_16 rfl rfl ?_
    refine j_aald X rfl rfl js_42 (j_lt rfl hn) jd_Gu_headsIn_17 (fun q => ja_42 hF _ (j_ok_lt q)) h (fun hb2 h => ?_)
    refine j_callVi (As := []) (st := []) (c0 := (43 + (j_ix x2))) X h jc_Pa (jsp_43 (j_ok_lt hb2)) (j_ltq (j_ok_lt hb2) rfl hn) ⟨jqc_Pa_isIn, jqi_Pa_isIn, jqv_Pa_isIn, jqn_Pa⟩ jlm_Gu_26 jh_Pa_isIn rfl (by decide) (by decide) (Nat.le_of_ble_eq_true rfl) ⟨Nat.zero_le _, Nat.zero_le _⟩ (fun v0 I0 h => k_Pa_isIn (r := (v0, I0)) hF hn (j_ok_lt hb2) h) jd_Gu_headsIn_18 rfl (fun v3 I4 h => ?_)
    refine j_if_eq (tgt := 36) X jd_Gu_headsIn_21 rfl h (fun h => ?_) (fun h => ?_)
    · exact k_Gu_headsIn_36 hF hn X hkb4 h
    · refine j_iload_n X jd_Gu_headsIn_24 rfl rfl ?_
      refine j_aload_n X jd_Gu_headsIn_25 rfl rfl ?_
      refine j_getr X jf_Gu_15 jk_3_1 js_41 (j_lt rfl hn) (jp_41_1 hF) jd_Gu_headsIn_26 ?_
      refine j_iload_n X jd_Gu_headsIn_29 rfl rfl ?_
      refine j_aald X rfl rfl js_42 (j_lt rfl hn) jd_Gu_headsIn_30 (fun q => ja_42 hF _ (j_ok_lt q)) h (fun hb5 h => ?_)
      refine j_get X jf_Gu_39 jk_4_1 (jsp_43 (j_ok_lt hb5)) (j_ltq (j_ok_lt hb5) rfl hn) jd_Gu_headsIn_31 ?_
      refine j_iadd X jd_Gu_headsIn_34 ?_
      refine j_nm h (fun v6 h => ?_)
      refine j_istore_n (lv' := [some (.ref (b + 41)), some (.int v6), some (.int x2)]) X jd_Gu_headsIn_35 rfl (by decide) rfl ?_
      exact k_Gu_headsIn_36 hF hn X hkb4 h
set_option maxRecDepth 100000 in
set_option maxHeartbeats 4000000 in
theorem k_Gu_headsIn_4 {p : Program} {l : Launch} {e : Env} {R : Room} {s : State} {m : MethodId} {args : Array Value} {below : List Frame} {meth : Method} {c : Code} {g : j_G} {b n : Nat} {P : j_R} {F : Nat} (hF : j_Fx 0 260 P) (hn : 260 ≤ n) (X : j_X p R s m args meth c g b 1 jb_Gu_headsIn 3 "PleasureGarden$Guests" (some .int))  {x1 : Int32} {x2 : Int32} {I : j_M} {r : Int32 × j_M} (h : f_Gu_headsIn_4 F x1 x2 I = some r) : j_W p l e R s m args below meth c 3 g b n 0 0 (j_Qi g b n P below args s r) I P 4 [some (.ref (b + 41)), some (.int x1), some (.int x2)] [] := by
  refine j_loop (G := fun (q : Int32 × Int32 × j_M) (r : Int32 × j_M) => j_W p l e R s m args below meth c 3 g b n 0 0 (j_Qi g b n P below args s r) q.2.2 P 4 [some (.ref (b + 41)), some (.int (q.1)), some (.int (q.2.1))] []) ?_ F (x1, x2, I) r h
  intro again hrec0 q r h
  exact k_Gu_headsIn_4b hF hn X (fun x1 x2 I r h => hrec0 (x1, x2, I) r h)  h
set_option maxRecDepth 100000 in
set_option maxHeartbeats 4000000 in
theorem k_Gu_headsIn {l : Launch} {g : j_G} {b n : Nat} {P : j_R} {F : Nat} (hF : j_Fx 0 260 P) (hn : 260 ≤ n)  {I : j_M} {r : Int32 × j_M}  (h : f_Gu_headsIn F I = some r) : j_Met l g b n P 1 jy_Gu_headsIn jb_Gu_headsIn 3 (some .int) [.ref (b + 41)] I r.2 (some (.int r.1)) := by
  unfold f_Gu_headsIn at h
  refine j_enter (plainFor_of_name (by decide)) (Nat.le_of_ble_eq_true rfl) [some (.ref (b + 41)), none, none] rfl ?_
  intro p e R s m args below meth c X0 hnm hRc hRs
  have X : j_X p R s m args meth c g b 1 jb_Gu_headsIn 3 "PleasureGarden$Guests" (some .int) := X0
  clear X0
  refine j_iconst (v := 0) X jd_Gu_headsIn_0 (by decide) ?_
  refine j_istore_n (lv' := [some (.ref (b + 41)), some (.int 0), none]) X jd_Gu_headsIn_1 rfl (by decide) rfl ?_
  refine j_iconst (v := 0) X jd_Gu_headsIn_2 (by decide) ?_
  refine j_istore_n (lv' := [some (.ref (b + 41)), some (.int 0), some (.int 0)]) X jd_Gu_headsIn_3 rfl (by decide) rfl ?_
  exact k_Gu_headsIn_4 hF hn X h
-- PleasureGarden$Lamps.join(III)I
theorem jd_La_join_0 : decode jb_La_join 0 = .ok (.iconst 0, 1) := by decide +kernel
theorem jd_La_join_1 : decode jb_La_join 1 = .ok (.istore 4, 2) := by decide +kernel
theorem jd_La_join_3 : decode jb_La_join 3 = .ok (.iload 4, 2) := by decide +kernel
theorem jd_La_join_5 : decode jb_La_join 5 = .ok (.aload_n 0, 1) := by decide +kernel
theorem jd_La_join_6 : decode jb_La_join 6 = .ok (.getfield 7, 3) := by decide +kernel
theorem jd_La_join_9 : decode jb_La_join 9 = .ok (.if_icmp .ge 103, 3) := by decide +kernel
theorem jd_La_join_12 : decode jb_La_join 12 = .ok (.iconst 0, 1) := by decide +kernel
theorem jd_La_join_13 : decode jb_La_join 13 = .ok (.istore 5, 2) := by decide +kernel
theorem jd_La_join_15 : decode jb_La_join 15 = .ok (.iload 5, 2) := by decide +kernel
theorem jd_La_join_17 : decode jb_La_join 17 = .ok (.aload_n 0, 1) := by decide +kernel
theorem jd_La_join_18 : decode jb_La_join 18 = .ok (.getfield 7, 3) := by decide +kernel
theorem jd_La_join_21 : decode jb_La_join 21 = .ok (.if_icmp .ge 85, 3) := by decide +kernel
theorem jd_La_join_24 : decode jb_La_join 24 = .ok (.aload_n 0, 1) := by decide +kernel
theorem jd_La_join_25 : decode jb_La_join 25 = .ok (.getfield 28, 3) := by decide +kernel
theorem jd_La_join_28 : decode jb_La_join 28 = .ok (.iload 4, 2) := by decide +kernel
theorem jd_La_join_30 : decode jb_La_join 30 = .ok (.aaload, 1) := by decide +kernel
theorem jd_La_join_31 : decode jb_La_join 31 = .ok (.iload_n 1, 1) := by decide +kernel
theorem jd_La_join_32 : decode jb_La_join 32 = .ok (.iaload, 1) := by decide +kernel
theorem jd_La_join_33 : decode jb_La_join 33 = .ok (.iload_n 3, 1) := by decide +kernel
theorem jd_La_join_34 : decode jb_La_join 34 = .ok (.iadd, 1) := by decide +kernel
theorem jd_La_join_35 : decode jb_La_join 35 = .ok (.aload_n 0, 1) := by decide +kernel
theorem jd_La_join_36 : decode jb_La_join 36 = .ok (.getfield 28, 3) := by decide +kernel
theorem jd_La_join_39 : decode jb_La_join 39 = .ok (.iload_n 2, 1) := by decide +kernel
theorem jd_La_join_40 : decode jb_La_join 40 = .ok (.aaload, 1) := by decide +kernel
theorem jd_La_join_41 : decode jb_La_join 41 = .ok (.iload 5, 2) := by decide +kernel
theorem jd_La_join_43 : decode jb_La_join 43 = .ok (.iaload, 1) := by decide +kernel
theorem jd_La_join_44 : decode jb_La_join 44 = .ok (.iadd, 1) := by decide +kernel
theorem jd_La_join_45 : decode jb_La_join 45 = .ok (.istore 6, 2) := by decide +kernel
theorem jd_La_join_47 : decode jb_La_join 47 = .ok (.aload_n 0, 1) := by decide +kernel
theorem jd_La_join_48 : decode jb_La_join 48 = .ok (.getfield 28, 3) := by decide +kernel
theorem jd_La_join_51 : decode jb_La_join 51 = .ok (.iload 4, 2) := by decide +kernel
theorem jd_La_join_53 : decode jb_La_join 53 = .ok (.aaload, 1) := by decide +kernel
theorem jd_La_join_54 : decode jb_La_join 54 = .ok (.iload_n 2, 1) := by decide +kernel
theorem jd_La_join_55 : decode jb_La_join 55 = .ok (.iaload, 1) := by decide +kernel
theorem jd_La_join_56 : decode jb_La_join 56 = .ok (.iload_n 3, 1) := by decide +kernel
theorem jd_La_join_57 : decode jb_La_join 57 = .ok (.iadd, 1) := by decide +kernel
theorem jd_La_join_58 : decode jb_La_join 58 = .ok (.aload_n 0, 1) := by decide +kernel
theorem jd_La_join_59 : decode jb_La_join 59 = .ok (.getfield 28, 3) := by decide +kernel
theorem jd_La_join_62 : decode jb_La_join 62 = .ok (.iload_n 1, 1) := by decide +kernel
theorem jd_La_join_63 : decode jb_La_join 63 = .ok (.aaload, 1) := by decide +kernel
theorem jd_La_join_64 : decode jb_La_join 64 = .ok (.iload 5, 2) := by decide +kernel
theorem jd_La_join_66 : decode jb_La_join 66 = .ok (.iaload, 1) := by decide +kernel
theorem jd_La_join_67 : decode jb_La_join 67 = .ok (.iadd, 1) := by decide +kernel
theorem jd_La_join_68 : decode jb_La_join 68 = .ok (.istore 7, 2) := by decide +kernel
theorem jd_La_join_70 : decode jb_La_join 70 = .ok (.aload_n 0, 1) := by decide +kernel
theorem jd_La_join_71 : decode jb_La_join 71 = .ok (.getfield 28, 3) := by decide +kernel
theorem jd_La_join_74 : decode jb_La_join 74 = .ok (.iload 4, 2) := by decide +kernel
theorem jd_La_join_76 : decode jb_La_join 76 = .ok (.aaload, 1) := by decide +kernel
theorem jd_La_join_77 : decode jb_La_join 77 = .ok (.iload 5, 2) := by decide +kernel
theorem jd_La_join_79 : decode jb_La_join 79 = .ok (.aload_n 0, 1) := by decide +kernel
theorem jd_La_join_80 : decode jb_La_join 80 = .ok (.getfield 28, 3) := by decide +kernel
theorem jd_La_join_83 : decode jb_La_join 83 = .ok (.iload 4, 2) := by decide +kernel
theorem jd_La_join_85 : decode jb_La_join 85 = .ok (.aaload, 1) := by decide +kernel
theorem jd_La_join_86 : decode jb_La_join 86 = .ok (.iload 5, 2) := by decide +kernel
theorem jd_La_join_88 : decode jb_La_join 88 = .ok (.iaload, 1) := by decide +kernel
theorem jd_La_join_89 : decode jb_La_join 89 = .ok (.iload 6, 2) := by decide +kernel
theorem jd_La_join_91 : decode jb_La_join 91 = .ok (.iload 7, 2) := by decide +kernel
theorem jd_La_join_93 : decode jb_La_join 93 = .ok (.invokestatic 32, 3) := by decide +kernel
theorem jd_La_join_96 : decode jb_La_join 96 = .ok (.invokestatic 32, 3) := by decide +kernel
theorem jd_La_join_99 : decode jb_La_join 99 = .ok (.iastore, 1) := by decide +kernel
theorem jd_La_join_100 : decode jb_La_join 100 = .ok (.iinc 5 1, 3) := by decide +kernel
theorem jd_La_join_103 : decode jb_La_join 103 = .ok (.goto (-88), 3) := by decide +kernel
theorem jd_La_join_106 : decode jb_La_join 106 = .ok (.iinc 4 1, 3) := by decide +kernel
theorem jd_La_join_109 : decode jb_La_join 109 = .ok (.goto (-106), 3) := by decide +kernel
theorem jd_La_join_112 : decode jb_La_join 112 = .ok (.aload_n 0, 1) := by decide +kernel
theorem jd_La_join_113 : decode jb_La_join 113 = .ok (.dup, 1) := by decide +kernel
theorem jd_La_join_114 : decode jb_La_join 114 = .ok (.getfield 13, 3) := by decide +kernel
theorem jd_La_join_117 : decode jb_La_join 117 = .ok (.iconst 1, 1) := by decide +kernel
theorem jd_La_join_118 : decode jb_La_join 118 = .ok (.iadd, 1) := by decide +kernel
theorem jd_La_join_119 : decode jb_La_join 119 = .ok (.putfield 13, 3) := by decide +kernel
theorem jd_La_join_122 : decode jb_La_join 122 = .ok (.aload_n 0, 1) := by decide +kernel
theorem jd_La_join_123 : decode jb_La_join 123 = .ok (.getfield 13, 3) := by decide +kernel
theorem jd_La_join_126 : decode jb_La_join 126 = .ok (.ireturn, 1) := by decide +kernel
def f_La_join_15b (F : Nat) (kb15 : Int32 → Int32 → Int32 → Int32 → Int32 → j_M → Option (Int32 × j_M)) (kb3 : Int32 → Int32 → Int32 → Int32 → j_M → Option (Int32 × j_M)) (x1 : Int32) (x2 : Int32) (x3 : Int32) (x4 : Int32) (x5 : Int32) (I : j_M) : Option (Int32 × j_M) := (if (I 150 0) ≤ x5 then j_let (x4 + 1) (fun v1 => kb3 x1 x2 x3 v1 I) else (if j_ok x4 40 = true then (if j_ok x1 40 = true then (if j_ok x2 40 = true then (if j_ok x5 40 = true then j_let (((I (154 + (j_ix x4)) (j_ix x1)) + x3) + (I (154 + (j_ix x2)) (j_ix x5))) (fun v4 => (if j_ok x4 40 = true then (if j_ok x2 40 = true then (if j_ok x1 40 = true then (if j_ok x5 40 = true then j_let (((I (154 + (j_ix x4)) (j_ix x2)) + x3) + (I (154 + (j_ix x1)) (j_ix x5))) (fun v7 => (if j_ok x4 40 = true then (if j_ok x4 40 = true then (if j_ok x5 40 = true then j_let (if v7 < v4 then v7 else v4) (fun v10 => j_let (if v10 < (I (154 + (j_ix x4)) (j_ix x5)) then v10 else (I (154 + (j_ix x4)) (j_ix x5))) (fun v11 => (if j_ok x5 40 = true then j_let (j_wr I (154 + (j_ix x4)) (j_ix x5) v11) (fun I12 => j_let (x5 + 1) (fun v13 => kb15 x1 x2 x3 x4 v13 I12)) else none))) else none) else none) else none)) else none) else none) else none) else none)) else none) else none) else none) else none))
def f_La_join_15 (F : Nat) (kb3 : Int32 → Int32 → Int32 → Int32 → j_M → Option (Int32 × j_M)) (x1 : Int32) (x2 : Int32) (x3 : Int32) (x4 : Int32) (x5 : Int32) (I : j_M) : Option (Int32 × j_M) := j_it (fun (again : Int32 × Int32 × Int32 × Int32 × Int32 × j_M → Option (Int32 × j_M)) (q : Int32 × Int32 × Int32 × Int32 × Int32 × j_M) => f_La_join_15b F  (fun x1 x2 x3 x4 x5 I => again (x1, x2, x3, x4, x5, I)) kb3 q.1 q.2.1 q.2.2.1 q.2.2.2.1 q.2.2.2.2.1 q.2.2.2.2.2) F (x1, x2, x3, x4, x5, I)
def f_La_join_3b (F : Nat) (kb3 : Int32 → Int32 → Int32 → Int32 → j_M → Option (Int32 × j_M)) (x1 : Int32) (x2 : Int32) (x3 : Int32) (x4 : Int32) (I : j_M) : Option (Int32 × j_M) := (if (I 150 0) ≤ x4 then j_let (j_wr I 150 1 ((I 150 1) + 1)) (fun I14 => some (I14 150 1, I14)) else f_La_join_15 F kb3 x1 x2 x3 x4 0 I)
def f_La_join_3 (F : Nat)  (x1 : Int32) (x2 : Int32) (x3 : Int32) (x4 : Int32) (I : j_M) : Option (Int32 × j_M) := j_it (fun (again : Int32 × Int32 × Int32 × Int32 × j_M → Option (Int32 × j_M)) (q : Int32 × Int32 × Int32 × Int32 × j_M) => f_La_join_3b F  (fun x1 x2 x3 x4 I => again (x1, x2, x3, x4, I))  q.1 q.2.1 q.2.2.1 q.2.2.2.1 q.2.2.2.2) F (x1, x2, x3, x4, I)
def f_La_join (F : Nat) (x1 : Int32) (x2 : Int32) (x3 : Int32) (I : j_M) : Option (Int32 × j_M) := f_La_join_3 F x1 x2 x3 0 I
set_option maxRecDepth 100000 in
set_option maxHeartbeats 4000000 in
theorem k_La_join_15b {p : Program} {l : Launch} {e : Env} {R : Room} {s : State} {m : MethodId} {args : Array Value} {below : List Frame} {meth : Method} {c : Code} {g : j_G} {b n : Nat} {P : j_R} {F : Nat} (hF : j_Fx 0 260 P) (hn : 260 ≤ n) (X : j_X p R s m args meth c g b 1 jb_La_join 8 "PleasureGarden$Lamps" (some .int)) {kb15 : Int32 → Int32 → Int32 → Int32 → Int32 → j_M → Option (Int32 × j_M)} (hkb15 : ∀ (x1 : Int32) (x2 : Int32) (x3 : Int32) (x4 : Int32) (x5 : Int32) (I : j_M) (r : Int32 × j_M), kb15 x1 x2 x3 x4 x5 I = some r → j_W p l e R s m args below meth c 8 g b n 0 0 (j_Qi g b n P below args s r) I P 15 [some (.ref (b + 150)), some (.int x1), some (.int x2), some (.int x3), some (.int x4), some (.int x5), none, none] []) {kb3 : Int32 → Int32 → Int32 → Int32 → j_M → Option (Int32 × j_M)} (hkb3 : ∀ (x1 : Int32) (x2 : Int32) (x3 : Int32) (x4 : Int32) (I : j_M) (r : Int32 × j_M), kb3 x1 x2 x3 x4 I = some r → j_W p l e R s m args below meth c 8 g b n 0 0 (j_Qi g b n P below args s r) I P 3 [some (.ref (b + 150)), some (.int x1), some (.int x2), some (.int x3), some (.int x4), none, none, none] []) {x1 : Int32} {x2 : Int32} {x3 : Int32} {x4 : Int32} {x5 : Int32} {I : j_M} {r : Int32 × j_M}  (h : f_La_join_15b F kb15 kb3 x1 x2 x3 x4 x5 I = some r) : j_W p l e R s m args below meth c 8 g b n 0 0 (j_Qi g b n P below args s r) I P 15 [some (.ref (b + 150)), some (.int x1), some (.int x2), some (.int x3), some (.int x4), some (.int x5), none, none] [] := by
  unfold f_La_join_15b at h
  refine j_iload X jd_La_join_15 rfl ?_
  refine j_aload_n X jd_La_join_17 rfl rfl ?_
  refine j_get X jf_La_7 jk_6_0 js_150 (j_lt rfl hn) jd_La_join_18 ?_
  refine j_icmp_ge (tgt := 106) X jd_La_join_21 rfl h (fun h => ?_) (fun h => ?_)
  · obtain ⟨v1, ev1, h⟩ := j_ex h
    refine j_iinc (v := v1) (lv' := [some (.ref (b + 150)), some (.int x1), some (.int x2), some (.int x3), some (.int v1), some (.int x5), none, none]) X jd_La_join_106 rfl (by rw [ev1]; rfl) (by decide) rfl ?_
    refine j_goto (tgt := 3) X jd_La_join_109 rfl ?_
    refine j_sub [true, true, true, true, true, false, false, false] (lv' := [some (.ref (b + 150)), some (.int x1), some (.int x2), some (.int x3), some (.int v1), none, none, none]) rfl ?_
    exact hkb3 _ _ _ _ _ _ h
  · refine j_aload_n X jd_La_join_24 rfl rfl ?_
    refine j_getr X jf_La_28 jk_6_5 js_150 (j_lt rfl hn) (jp_150_5 hF) jd_La_join_25 ?_
    refine j_iload X jd_La_join_28 rfl ?_
    refine j_aald X rfl rfl js_153 (j_lt rfl hn) jd_La_join_30 (fun q => ja_153 hF _ (j_ok_lt q)) h (fun hb2 h => ?_)
    refine j_iload_n X jd_La_join_31 rfl rfl ?_
    refine j_iald X (jsp_154 (j_ok_lt hb2)) (j_ltq (j_ok_lt hb2) rfl hn) jd_La_join_32 h (fun _ h => ?_)
    refine j_iload_n X jd_La_join_33 rfl rfl ?_
    refine j_iadd X jd_La_join_34 ?_
    refine j_aload_n X jd_La_join_35 rfl rfl ?_
    refine j_getr X jf_La_28 jk_6_5 js_150 (j_lt rfl hn) (jp_150_5 hF) jd_La_join_36 ?_
    refine j_iload_n X jd_La_join_39 rfl rfl ?_
    refine j_aald X rfl rfl js_153 (j_lt rfl hn) jd_La_join_40 (fun q => ja_153 hF _ (j_ok_lt q)) h (fun hb3 h => ?_)
    refine j_iload X jd_La_join_41 rfl ?_
    refine j_iald X (jsp_154 (j_ok_lt hb3)) (j_ltq (j_ok_lt hb3) rfl hn) jd_La_join_43 h (fun _ h => ?_)
    refine j_iadd X jd_La_join_44 ?_
    refine j_nm h (fun v4 h => ?_)
    refine j_istore (lv' := [some (.ref (b + 150)), some (.int x1), some (.int x2), some (.int x3), some (.int x4), some (.int x5), some (.int v4), none]) X jd_La_join_45 (by decide) rfl ?_
    refine j_aload_n X jd_La_join_47 rfl rfl ?_
    refine j_getr X jf_La_28 jk_6_5 js_150 (j_lt rfl hn) (jp_150_5 hF) jd_La_join_48 ?_
    refine j_iload X jd_La_join_51 rfl ?_
    refine j_aald X rfl rfl js_153 (j_lt rfl hn) jd_La_join_53 (fun q => ja_153 hF _ (j_ok_lt q)) h (fun hb5 h => ?_)
    refine j_iload_n X jd_La_join_54 rfl rfl ?_
    refine j_iald X (jsp_154 (j_ok_lt hb5)) (j_ltq (j_ok_lt hb5) rfl hn) jd_La_join_55 h (fun _ h => ?_)
    refine j_iload_n X jd_La_join_56 rfl rfl ?_
    refine j_iadd X jd_La_join_57 ?_
    refine j_aload_n X jd_La_join_58 rfl rfl ?_
    refine j_getr X jf_La_28 jk_6_5 js_150 (j_lt rfl hn) (jp_150_5 hF) jd_La_join_59 ?_
    refine j_iload_n X jd_La_join_62 rfl rfl ?_
    refine j_aald X rfl rfl js_153 (j_lt rfl hn) jd_La_join_63 (fun q => ja_153 hF _ (j_ok_lt q)) h (fun hb6 h => ?_)
    refine j_iload X jd_La_join_64 rfl ?_
    refine j_iald X (jsp_154 (j_ok_lt hb6)) (j_ltq (j_ok_lt hb6) rfl hn) jd_La_join_66 h (fun _ h => ?_)
    refine j_iadd X jd_La_join_67 ?_
    refine j_nm h (fun v7 h => ?_)
    refine j_istore (lv' := [some (.ref (b + 150)), some (.int x1), some (.int x2), some (.int x3), some (.int x4), some (.int x5), some (.int v4), some (.int v7)]) X jd_La_join_68 (by decide) rfl ?_
    refine j_aload_n X jd_La_join_70 rfl rfl ?_
    refine j_getr X jf_La_28 jk_6_5 js_150 (j_lt rfl hn) (jp_150_5 hF) jd_La_join_71 ?_
    refine j_iload X jd_La_join_74 rfl ?_
    refine j_aald X rfl rfl js_153 (j_lt rfl hn) jd_La_join_76 (fun q => ja_153 hF _ (j_ok_lt q)) h (fun hb8 h => ?_)
    refine j_iload X jd_La_join_77 rfl ?_
    refine j_aload_n X jd_La_join_79 rfl rfl ?_
    refine j_getr X jf_La_28 jk_6_5 js_150 (j_lt rfl hn) (jp_150_5 hF) jd_La_join_80 ?_
    refine j_iload X jd_La_join_83 rfl ?_
    refine j_aald X rfl rfl js_153 (j_lt rfl hn) jd_La_join_85 (fun q => ja_153 hF _ (j_ok_lt q)) h (fun hb9 h => ?_)
    refine j_iload X jd_La_join_86 rfl ?_
    refine j_iald X (jsp_154 (j_ok_lt hb9)) (j_ltq (j_ok_lt hb9) rfl hn) jd_La_join_88 h (fun _ h => ?_)
    refine j_iload X jd_La_join_89 rfl ?_
    refine j_iload X jd_La_join_91 rfl ?_
    refine j_mmin (st := [.int (I (154 + (j_ix x4)) (j_ix x5)), .int x5, .ref (b + (154 + (j_ix x4)))]) X jlm_La_32 (by decide) (Nat.le_of_ble_eq_true rfl) ⟨Nat.zero_le _, Nat.zero_le _⟩ jd_La_join_93 ?_
    refine j_nm h (fun v10 h => ?_)
    refine j_mmin (st := [.int x5, .ref (b + (154 + (j_ix x4)))]) X jlm_La_32 (by decide) (Nat.le_of_ble_eq_true rfl) ⟨Nat.zero_le _, Nat.zero_le _⟩ jd_La_join_96 ?_
    refine j_nm h (fun v11 h => ?_)
    refine j_iast X (jsp_154 (j_ok_lt hb8)) (j_ltq (j_ok_lt hb8) rfl hn) jd_La_join_99 h (fun h => ?_)
    refine j_mem h (fun I12 h => ?_)
    obtain ⟨v13, ev13, h⟩ := j_ex h
    refine j_iinc (v := v13) (lv' := [some (.ref (b + 150)), some (.int x1), some (.int x2), some (.int x3), some (.int x4), some (.int v13), some (.int v4), some (.int v7)]) X jd_La_join_100 rfl (by rw [ev13]; rfl) (by decide) rfl ?_
    refine j_goto (tgt := 15) X jd_La_join_103 rfl ?_
    refine j_sub [true, true, true, true, true, true, false, false] (lv' := [some (.ref (b + 150)), some (.int x1), some (.int x2), some (.int x3), some (.int x4), some (.int v13), none, none]) rfl ?_
    exact hkb15 _ _ _ _ _ _ _ h
set_option maxRecDepth 100000 in
set_option maxHeartbeats 4000000 in
theorem k_La_join_15 {p : Program} {l : Launch} {e : Env} {R : Room} {s : State} {m : MethodId} {args : Array Value} {below : List Frame} {meth : Method} {c : Code} {g : j_G} {b n : Nat} {P : j_R} {F : Nat} (hF : j_Fx 0 260 P) (hn : 260 ≤ n) (X : j_X p R s m args meth c g b 1 jb_La_join 8 "PleasureGarden$Lamps" (some .int)) {kb3 : Int32 → Int32 → Int32 → Int32 → j_M → Option (Int32 × j_M)} (hkb3 : ∀ (x1 : Int32) (x2 : Int32) (x3 : Int32) (x4 : Int32) (I : j_M) (r : Int32 × j_M), kb3 x1 x2 x3 x4 I = some r → j_W p l e R s m args below meth c 8 g b n 0 0 (j_Qi g b n P below args s r) I P 3 [some (.ref (b + 150)), some (.int x1), some (.int x2), some (.int x3), some (.int x4), none, none, none] []) {x1 : Int32} {x2 : Int32} {x3 : Int32} {x4 : Int32} {x5 : Int32} {I : j_M} {r : Int32 × j_M} (h : f_La_join_15 F kb3 x1 x2 x3 x4 x5 I = some r) : j_W p l e R s m args below meth c 8 g b n 0 0 (j_Qi g b n P below args s r) I P 15 [some (.ref (b + 150)), some (.int x1), some (.int x2), some (.int x3), some (.int x4), some (.int x5), none, none] [] := by
  refine j_loop (G := fun (q : Int32 × Int32 × Int32 × Int32 × Int32 × j_M) (r : Int32 × j_M) => j_W p l e R s m args below meth c 8 g b n 0 0 (j_Qi g b n P below args s r) q.2.2.2.2.2 P 15 [some (.ref (b + 150)), some (.int (q.1)), some (.int (q.2.1)), some (.int (q.2.2.1)), some (.int (q.2.2.2.1)), some (.int (q.2.2.2.2.1)), none, none] []) ?_ F (x1, x2, x3, x4, x5, I) r h
  intro again hrec0 q r h
  exact k_La_join_15b hF hn X (fun x1 x2 x3 x4 x5 I r h => hrec0 (x1, x2, x3, x4, x5, I) r h) hkb3 h
set_option maxRecDepth 100000 in
set_option maxHeartbeats 4000000 in
theorem k_La_join_3b {p : Program} {l : Launch} {e : Env} {R : Room} {s : State} {m : MethodId} {args : Array Value} {below : List Frame} {meth : Method} {c : Code} {g : j_G} {b n : Nat} {P : j_R} {F : Nat} (hF : j_Fx 0 260 P) (hn : 260 ≤ n) (X : j_X p R s m args meth c g b 1 jb_La_join 8 "PleasureGarden$Lamps" (some .int)) {kb3 : Int32 → Int32 → Int32 → Int32 → j_M → Option (Int32 × j_M)} (hkb3 : ∀ (x1 : Int32) (x2 : Int32) (x3 : Int32) (x4 : Int32) (I : j_M) (r : Int32 × j_M), kb3 x1 x2 x3 x4 I = some r → j_W p l e R s m args below meth c 8 g b n 0 0 (j_Qi g b n P below args s r) I P 3 [some (.ref (b + 150)), some (.int x1), some (.int x2), some (.int x3), some (.int x4), none, none, none] []) {x1 : Int32} {x2 : Int32} {x3 : Int32} {x4 : Int32} {I : j_M} {r : Int32 × j_M}  (h : f_La_join_3b F kb3 x1 x2 x3 x4 I = some r) : j_W p l e R s m args below meth c 8 g b n 0 0 (j_Qi g b n P below args s r) I P 3 [some (.ref (b + 150)), some (.int x1), some (.int x2), some (.int x3), some (.int x4), none, none, none] [] := by
  unfold f_La_join_3b at h
  refine j_iload X jd_La_join_3 rfl ?_
  refine j_aload_n X jd_La_join_5 rfl rfl ?_
  refine j_get X jf_La_7 jk_6_0 js_150 (j_lt rfl hn) jd_La_join_6 ?_
  refine j_icmp_ge (tgt := 112) X jd_La_join_9 rfl h (fun h => ?_) (fun h => ?_)
  · refine j_aload_n X jd_La_join_112 rfl rfl ?_
    refine j_dup X jd_La_join_113 rfl ?_
    refine j_get X jf_La_13 jk_6_1 js_150 (j_lt rfl hn) jd_La_join_114 ?_
    refine j_iconst (v := 1) X jd_La_join_117 (by decide) ?_
    refine j_iadd X jd_La_join_118 ?_
    refine j_puti X jt_La jto_La jn_La jf_La_13 jk_6_1 js_150 (j_lt rfl hn) (Or.inl rfl) rfl jd_La_join_119 ?_
    refine j_mem h (fun I14 h => ?_)
    refine j_aload_n X jd_La_join_122 rfl rfl ?_
    refine j_get X jf_La_13 jk_6_1 js_150 (j_lt rfl hn) jd_La_join_123 ?_
    exact j_iret X rfl jd_La_join_126 h
  · refine j_iconst (v := 0) X jd_La_join_12 (by decide) ?_
    refine j_istore (lv' := [some (.ref (b + 150)), some (.int x1), some (.int x2), some (.int x3), some (.int x4), some (.int 0), none, none]) X jd_La_join_13 (by decide) rfl ?_
    exact k_La_join_15 hF hn X hkb3 h
set_option maxRecDepth 100000 in
set_option maxHeartbeats 4000000 in
theorem k_La_join_3 {p : Program} {l : Launch} {e : Env} {R : Room} {s : State} {m : MethodId} {args : Array Value} {below : List Frame} {meth : Method} {c : Code} {g : j_G} {b n : Nat} {P : j_R} {F : Nat} (hF : j_Fx 0 260 P) (hn : 260 ≤ n) (X : j_X p R s m args meth c g b 1 jb_La_join 8 "PleasureGarden$Lamps" (some .int))  {x1 : Int32} {x2 : Int32} {x3 : Int32} {x4 : Int32} {I : j_M} {r : Int32 × j_M} (h : f_La_join_3 F x1 x2 x3 x4 I = some r) : j_W p l e R s m args below meth c 8 g b n 0 0 (j_Qi g b n P below args s r) I P 3 [some (.ref (b + 150)), some (.int x1), some (.int x2), some (.int x3), some (.int x4), none, none, none] [] := by
  refine j_loop (G := fun (q : Int32 × Int32 × Int32 × Int32 × j_M) (r : Int32 × j_M) => j_W p l e R s m args below meth c 8 g b n 0 0 (j_Qi g b n P below args s r) q.2.2.2.2 P 3 [some (.ref (b + 150)), some (.int (q.1)), some (.int (q.2.1)), some (.int (q.2.2.1)), some (.int (q.2.2.2.1)), none, none, none] []) ?_ F (x1, x2, x3, x4, I) r h
  intro again hrec0 q r h
  exact k_La_join_3b hF hn X (fun x1 x2 x3 x4 I r h => hrec0 (x1, x2, x3, x4, I) r h)  h
set_option maxRecDepth 100000 in
set_option maxHeartbeats 4000000 in
theorem k_La_join {l : Launch} {g : j_G} {b n : Nat} {P : j_R} {F : Nat} (hF : j_Fx 0 260 P) (hn : 260 ≤ n) {x1 : Int32} {x2 : Int32} {x3 : Int32} {I : j_M} {r : Int32 × j_M}  (h : f_La_join F x1 x2 x3 I = some r) : j_Met l g b n P 1 jy_La_join jb_La_join 8 (some .int) [.ref (b + 150), .int x1, .int x2, .int x3] I r.2 (some (.int r.1)) := by
  unfold f_La_join at h
  refine j_enter (plainFor_of_name (by decide)) (Nat.le_of_ble_eq_true rfl) [some (.ref (b + 150)), some (.int x1), some (.int x2), some (.int x3), none, none, none, none] rfl ?_
  intro p e R s m args below meth c X0 hnm hRc hRs
  have X : j_X p R s m args meth c g b 1 jb_La_join 8 "PleasureGarden$Lamps" (some .int) := X0
  clear X0
  refine j_iconst (v := 0) X jd_La_join_0 (by decide) ?_
  refine j_istore (lv' := [some (.ref (b + 150)), some (.int x1), some (.int x2), some (.int x3), some (.int 0), none, none, none]) X jd_La_join_1 (by decide) rfl ?_
  exact k_La_join_3 hF hn X h
-- PleasureGarden$Lamps.secondOf(III)I
theorem jd_La_secondOf_0 : decode jb_La_secondOf 0 = .ok (.aload_n 0, 1) := by decide +kernel
theorem jd_La_secondOf_1 : decode jb_La_secondOf 1 = .ok (.getfield 28, 3) := by decide +kernel
theorem jd_La_secondOf_4 : decode jb_La_secondOf 4 = .ok (.iload_n 2, 1) := by decide +kernel
theorem jd_La_secondOf_5 : decode jb_La_secondOf 5 = .ok (.aaload, 1) := by decide +kernel
theorem jd_La_secondOf_6 : decode jb_La_secondOf 6 = .ok (.iload_n 1, 1) := by decide +kernel
theorem jd_La_secondOf_7 : decode jb_La_secondOf 7 = .ok (.iaload, 1) := by decide +kernel
theorem jd_La_secondOf_8 : decode jb_La_secondOf 8 = .ok (.aload_n 0, 1) := by decide +kernel
theorem jd_La_secondOf_9 : decode jb_La_secondOf 9 = .ok (.getfield 28, 3) := by decide +kernel
theorem jd_La_secondOf_12 : decode jb_La_secondOf 12 = .ok (.iload_n 3, 1) := by decide +kernel
theorem jd_La_secondOf_13 : decode jb_La_secondOf 13 = .ok (.aaload, 1) := by decide +kernel
theorem jd_La_secondOf_14 : decode jb_La_secondOf 14 = .ok (.iload_n 1, 1) := by decide +kernel
theorem jd_La_secondOf_15 : decode jb_La_secondOf 15 = .ok (.iaload, 1) := by decide +kernel
theorem jd_La_secondOf_16 : decode jb_La_secondOf 16 = .ok (.invokestatic 32, 3) := by decide +kernel
theorem jd_La_secondOf_19 : decode jb_La_secondOf 19 = .ok (.istore 4, 2) := by decide +kernel
theorem jd_La_secondOf_21 : decode jb_La_secondOf 21 = .ok (.iload 4, 2) := by decide +kernel
theorem jd_La_secondOf_23 : decode jb_La_secondOf 23 = .ok (.ldc 31, 2) := by decide +kernel
theorem jd_La_secondOf_25 : decode jb_La_secondOf 25 = .ok (.if_icmp .lt 7, 3) := by decide +kernel
theorem jd_La_secondOf_28 : decode jb_La_secondOf 28 = .ok (.iconst (-1), 1) := by decide +kernel
theorem jd_La_secondOf_29 : decode jb_La_secondOf 29 = .ok (.goto 11, 3) := by decide +kernel
theorem jd_La_secondOf_32 : decode jb_La_secondOf 32 = .ok (.iload 4, 2) := by decide +kernel
theorem jd_La_secondOf_34 : decode jb_La_secondOf 34 = .ok (.bipush 9, 2) := by decide +kernel
theorem jd_La_secondOf_36 : decode jb_La_secondOf 36 = .ok (.iadd, 1) := by decide +kernel
theorem jd_La_secondOf_37 : decode jb_La_secondOf 37 = .ok (.bipush 10, 2) := by decide +kernel
theorem jd_La_secondOf_39 : decode jb_La_secondOf 39 = .ok (.idiv, 1) := by decide +kernel
theorem jd_La_secondOf_40 : decode jb_La_secondOf 40 = .ok (.ireturn, 1) := by decide +kernel
def f_La_secondOf (F : Nat) (x1 : Int32) (x2 : Int32) (x3 : Int32) (I : j_M) : Option (Int32 × j_M) := (if j_ok x2 40 = true then (if j_ok x1 40 = true then (if j_ok x3 40 = true then (if j_ok x1 40 = true then j_let (if (I (154 + (j_ix x3)) (j_ix x1)) < (I (154 + (j_ix x2)) (j_ix x1)) then (I (154 + (j_ix x3)) (j_ix x1)) else (I (154 + (j_ix x2)) (j_ix x1))) (fun v3 => (if v3 < 10000000 then (if 10 = 0 then none else some ((v3 + 9) / 10, I)) else some ((-1), I))) else none) else none) else none) else none)
set_option maxRecDepth 100000 in
set_option maxHeartbeats 4000000 in
theorem k_La_secondOf {l : Launch} {g : j_G} {b n : Nat} {P : j_R} {F : Nat} (hF : j_Fx 0 260 P) (hn : 260 ≤ n) {x1 : Int32} {x2 : Int32} {x3 : Int32} {I : j_M} {r : Int32 × j_M}  (h : f_La_secondOf F x1 x2 x3 I = some r) : j_Met l g b n P 1 jy_La_secondOf jb_La_secondOf 5 (some .int) [.ref (b + 150), .int x1, .int x2, .int x3] I r.2 (some (.int r.1)) := by
  unfold f_La_secondOf at h
  refine j_enter (plainFor_of_name (by decide)) (Nat.le_of_ble_eq_true rfl) [some (.ref (b + 150)), some (.int x1), some (.int x2), some (.int x3), none] rfl ?_
  intro p e R s m args below meth c X0 hnm hRc hRs
  have X : j_X p R s m args meth c g b 1 jb_La_secondOf 5 "PleasureGarden$Lamps" (some .int) := X0
  clear X0
  refine j_aload_n X jd_La_secondOf_0 rfl rfl ?_
  refine j_getr X jf_La_28 jk_6_5 js_150 (j_lt rfl hn) (jp_150_5 hF) jd_La_secondOf_1 ?_
  refine j_iload_n X jd_La_secondOf_4 rfl rfl ?_
  refine j_aald X rfl rfl js_153 (j_lt rfl hn) jd_La_secondOf_5 (fun q => ja_153 hF _ (j_ok_lt q)) h (fun hb1 h => ?_)
  refine j_iload_n X jd_La_secondOf_6 rfl rfl ?_
  refine j_iald X (jsp_154 (j_ok_lt hb1)) (j_ltq (j_ok_lt hb1) rfl hn) jd_La_secondOf_7 h (fun _ h => ?_)
  refine j_aload_n X jd_La_secondOf_8 rfl rfl ?_
  refine j_getr X jf_La_28 jk_6_5 js_150 (j_lt rfl hn) (jp_150_5 hF) jd_La_secondOf_9 ?_
  refine j_iload_n X jd_La_secondOf_12 rfl rfl ?_
  refine j_aald X rfl rfl js_153 (j_lt rfl hn) jd_La_secondOf_13 (fun q => ja_153 hF _ (j_ok_lt q)) h (fun hb2 h => ?_)
  refine j_iload_n X jd_La_secondOf_14 rfl rfl ?_
  refine j_iald X (jsp_154 (j_ok_lt hb2)) (j_ltq (j_ok_lt hb2) rfl hn) jd_La_secondOf_15 h (fun _ h => ?_)
  refine j_mmin (st := []) X jlm_La_32 (by decide) (Nat.le_of_ble_eq_true rfl) ⟨Nat.zero_le _, Nat.zero_le _⟩ jd_La_secondOf_16 ?_
  refine j_nm h (fun v3 h => ?_)
  refine j_istore (lv' := [some (.ref (b + 150)), some (.int x1), some (.int x2), some (.int x3), some (.int v3)]) X jd_La_secondOf_19 (by decide) rfl ?_
  refine j_iload X jd_La_secondOf_21 rfl ?_
  refine j_ldc (v := 10000000) X jlc_La_31 jd_La_secondOf_23 ?_
  refine j_icmp_lt (tgt := 32) X jd_La_secondOf_25 rfl h (fun h => ?_) (fun h => ?_)
  · refine j_iload X jd_La_secondOf_32 rfl ?_
    refine j_bipush (v := 9) X jd_La_secondOf_34 (by decide) ?_
    refine j_iadd X jd_La_secondOf_36 ?_
    refine j_bipush (v := 10) X jd_La_secondOf_37 (by decide) ?_
    refine j_idiv X jd_La_secondOf_39 h (fun h => ?_)
    exact j_iret X rfl jd_La_secondOf_40 h
  · refine j_iconst (v := (-1)) X jd_La_secondOf_28 (by decide) ?_
    refine j_goto (tgt := 40) X jd_La_secondOf_29 rfl ?_
    exact j_iret X rfl jd_La_secondOf_40 h
-- PleasureGarden$Lamps.unlit()I
theorem jd_La_unlit_0 : decode jb_La_unlit 0 = .ok (.iconst 0, 1) := by decide +kernel
theorem jd_La_unlit_1 : decode jb_La_unlit 1 = .ok (.istore_n 1, 1) := by decide +kernel
theorem jd_La_unlit_2 : decode jb_La_unlit 2 = .ok (.iconst 0, 1) := by decide +kernel
theorem jd_La_unlit_3 : decode jb_La_unlit 3 = .ok (.istore_n 2, 1) := by decide +kernel
theorem jd_La_unlit_4 : decode jb_La_unlit 4 = .ok (.iload_n 2, 1) := by decide +kernel
theorem jd_La_unlit_5 : decode jb_La_unlit 5 = .ok (.aload_n 0, 1) := by decide +kernel
theorem jd_La_unlit_6 : decode jb_La_unlit 6 = .ok (.getfield 7, 3) := by decide +kernel
theorem jd_La_unlit_9 : decode jb_La_unlit 9 = .ok (.if_icmp .ge 25, 3) := by decide +kernel
theorem jd_La_unlit_12 : decode jb_La_unlit 12 = .ok (.iload_n 1, 1) := by decide +kernel
theorem jd_La_unlit_13 : decode jb_La_unlit 13 = .ok (.aload_n 0, 1) := by decide +kernel
theorem jd_La_unlit_14 : decode jb_La_unlit 14 = .ok (.iload_n 2, 1) := by decide +kernel
theorem jd_La_unlit_15 : decode jb_La_unlit 15 = .ok (.invokevirtual 45, 3) := by decide +kernel
theorem jd_La_unlit_18 : decode jb_La_unlit 18 = .ok (.ifCond .eq 7, 3) := by decide +kernel
theorem jd_La_unlit_21 : decode jb_La_unlit 21 = .ok (.iconst 0, 1) := by decide +kernel
theorem jd_La_unlit_22 : decode jb_La_unlit 22 = .ok (.goto 4, 3) := by decide +kernel
theorem jd_La_unlit_25 : decode jb_La_unlit 25 = .ok (.iconst 1, 1) := by decide +kernel
theorem jd_La_unlit_26 : decode jb_La_unlit 26 = .ok (.iadd, 1) := by decide +kernel
theorem jd_La_unlit_27 : decode jb_La_unlit 27 = .ok (.istore_n 1, 1) := by decide +kernel
theorem jd_La_unlit_28 : decode jb_La_unlit 28 = .ok (.iinc 2 1, 3) := by decide +kernel
theorem jd_La_unlit_31 : decode jb_La_unlit 31 = .ok (.goto (-27), 3) := by decide +kernel
theorem jd_La_unlit_34 : decode jb_La_unlit 34 = .ok (.iload_n 1, 1) := by decide +kernel
theorem jd_La_unlit_35 : decode jb_La_unlit 35 = .ok (.ireturn, 1) := by decide +kernel
def f_La_unlit_26 (F : Nat) (kb4 : Int32 → Int32 → j_M → Option (Int32 × j_M)) (x2 : Int32) (s0 : Int32) (s1 : Int32) (I : j_M) : Option (Int32 × j_M) := j_let (s0 + s1) (fun v1 => j_let (x2 + 1) (fun v2 => kb4 v1 v2 I))
def f_La_unlit_4b (F : Nat) (kb4 : Int32 → Int32 → j_M → Option (Int32 × j_M)) (x1 : Int32) (x2 : Int32) (I : j_M) : Option (Int32 × j_M) := (if (I 150 0) ≤ x2 then some (x1, I) else j_bd (f_La_isLit F x2 I) (fun v3 I4 => (if v3 = 0 then f_La_unlit_26 F kb4 x2 x1 1 I4 else f_La_unlit_26 F kb4 x2 x1 0 I4)))
def f_La_unlit_4 (F : Nat)  (x1 : Int32) (x2 : Int32) (I : j_M) : Option (Int32 × j_M) := j_it (fun (again : Int32 × Int32 × j_M → Option (Int32 × j_M)) (q : Int32 × Int32 × j_M) => f_La_unlit_4b F  (fun x1 x2 I => again (x1, x2, I))  q.1 q.2.1 q.2.2) F (x1, x2, I)
def f_La_unlit (F : Nat)  (I : j_M) : Option (Int32 × j_M) := f_La_unlit_4 F 0 0 I
set_option maxRecDepth 100000 in
set_option maxHeartbeats 4000000 in
theorem k_La_unlit_26 {p : Program} {l : Launch} {e : Env} {R : Room} {s : State} {m : MethodId} {args : Array Value} {below : List Frame} {meth : Method} {c : Code} {g : j_G} {b n : Nat} {P : j_R} {F : Nat} (hF : j_Fx 0 260 P) (hn : 260 ≤ n) (X : j_X p R s m args meth c g b 1 jb_La_unlit 3 "PleasureGarden$Lamps" (some .int)) {kb4 : Int32 → Int32 → j_M → Option (Int32 × j_M)} (hkb4 : ∀ (x1 : Int32) (x2 : Int32) (I : j_M) (r : Int32 × j_M), kb4 x1 x2 I = some r → j_W p l e R s m args below meth c 3 g b n 0 0 (j_Qi g b n P below args s r) I P 4 [some (.ref (b + 150)), some (.int x1), some (.int x2)] []) {x2 : Int32} {s0 : Int32} {s1 : Int32} {I : j_M} {r : Int32 × j_M}  (h : f_La_unlit_26 F kb4 x2 s0 s1 I = some r) : j_W p l e R s m args below meth c 3 g b n 0 0 (j_Qi g b n P below args s r) I P 26 [some (.ref (b + 150)), none, some (.int x2)] [.int s1, .int s0] := by
  unfold f_La_unlit_26 at h
  refine j_iadd X jd_La_unlit_26 ?_
  refine j_nm h (fun v1 h => ?_)
  refine j_istore_n (lv' := [some (.ref (b + 150)), some (.int v1), some (.int x2)]) X jd_La_unlit_27 rfl (by decide) rfl ?_
  obtain ⟨v2, ev2, h⟩ := j_ex h
  refine j_iinc (v := v2) (lv' := [some (.ref (b + 150)), some (.int v1), some (.int v2)]) X jd_La_unlit_28 rfl (by rw [ev2]; rfl) (by decide) rfl ?_
  refine j_goto (tgt := 4) X jd_La_unlit_31 rfl ?_
  exact hkb4 _ _ _ _ h
set_option maxRecDepth 100000 in
set_option maxHeartbeats 4000000 in
theorem k_La_unlit_4b {p : Program} {l : Launch} {e : Env} {R : Room} {s : State} {m : MethodId} {args : Array Value} {below : List Frame} {meth : Method} {c : Code} {g : j_G} {b n : Nat} {P : j_R} {F : Nat} (hF : j_Fx 0 260 P) (hn : 260 ≤ n) (X : j_X p R s m args meth c g b 1 jb_La_unlit 3 "PleasureGarden$Lamps" (some .int)) {kb4 : Int32 → Int32 → j_M → Option (Int32 × j_M)} (hkb4 : ∀ (x1 : Int32) (x2 : Int32) (I : j_M) (r : Int32 × j_M), kb4 x1 x2 I = some r → j_W p l e R s m args below meth c 3 g b n 0 0 (j_Qi g b n P below args s r) I P 4 [some (.ref (b + 150)), some (.int x1), some (.int x2)] []) {x1 : Int32} {x2 : Int32} {I : j_M} {r : Int32 × j_M}  (h : f_La_unlit_4b F kb4 x1 x2 I = some r) : j_W p l e R s m args below meth c 3 g b n 0 0 (j_Qi g b n P below args s r) I P 4 [some (.ref (b + 150)), some (.int x1), some (.int x2)] [] := by
  unfold f_La_unlit_4b at h
  refine j_iload_n X jd_La_unlit_4 rfl rfl ?_
  refine j_aload_n X jd_La_unlit_5 rfl rfl ?_
  refine j_get X jf_La_7 jk_6_0 js_150 (j_lt rfl hn) jd_La_unlit_6 ?_
  refine j_icmp_ge (tgt := 34) X jd_La_unlit_9 rfl h (fun h => ?_) (fun h => ?_)
  · refine j_iload_n X jd_La_unlit_34 rfl rfl ?_
    exact j_iret X rfl jd_La_unlit_35 h
  · refine j_iload_n X jd_La_unlit_12 rfl rfl ?_
    refine j_aload_n X jd_La_unlit_13 rfl rfl ?_
    refine j_iload_n X jd_La_unlit_14 rfl rfl ?_
    refine j_callVi (As := [.int x2]) (st := [.int x1]) (c0 := 150) X h jc_La js_150 (j_lt rfl hn) ⟨jqc_La_isLit, jqi_La_isLit, jqv_La_isLit, jqn_La⟩ jlm_La_45 jh_La_isLit rfl (by decide) (by decide) (Nat.le_of_ble_eq_true rfl) ⟨Nat.zero_le _, Nat.zero_le _⟩ (fun v0 I0 h => k_La_isLit (r := (v0, I0)) hF hn h) jd_La_unlit_15 rfl (fun v3 I4 h => ?_)
    refine j_if_eq (tgt := 25) X jd_La_unlit_18 rfl h (fun h => ?_) (fun h => ?_)
    · refine j_iconst (v := 1) X jd_La_unlit_25 (by decide) ?_
      refine j_sub [true, false, true] (lv' := [some (.ref (b + 150)), none, some (.int x2)]) rfl ?_
      exact k_La_unlit_26 hF hn X hkb4 h
    · refine j_iconst (v := 0) X jd_La_unlit_21 (by decide) ?_
      refine j_goto (tgt := 26) X jd_La_unlit_22 rfl ?_
      refine j_sub [true, false, true] (lv' := [some (.ref (b + 150)), none, some (.int x2)]) rfl ?_
      exact k_La_unlit_26 hF hn X hkb4 h
set_option maxRecDepth 100000 in
set_option maxHeartbeats 4000000 in
theorem k_La_unlit_4 {p : Program} {l : Launch} {e : Env} {R : Room} {s : State} {m : MethodId} {args : Array Value} {below : List Frame} {meth : Method} {c : Code} {g : j_G} {b n : Nat} {P : j_R} {F : Nat} (hF : j_Fx 0 260 P) (hn : 260 ≤ n) (X : j_X p R s m args meth c g b 1 jb_La_unlit 3 "PleasureGarden$Lamps" (some .int))  {x1 : Int32} {x2 : Int32} {I : j_M} {r : Int32 × j_M} (h : f_La_unlit_4 F x1 x2 I = some r) : j_W p l e R s m args below meth c 3 g b n 0 0 (j_Qi g b n P below args s r) I P 4 [some (.ref (b + 150)), some (.int x1), some (.int x2)] [] := by
  refine j_loop (G := fun (q : Int32 × Int32 × j_M) (r : Int32 × j_M) => j_W p l e R s m args below meth c 3 g b n 0 0 (j_Qi g b n P below args s r) q.2.2 P 4 [some (.ref (b + 150)), some (.int (q.1)), some (.int (q.2.1))] []) ?_ F (x1, x2, I) r h
  intro again hrec0 q r h
  exact k_La_unlit_4b hF hn X (fun x1 x2 I r h => hrec0 (x1, x2, I) r h)  h
set_option maxRecDepth 100000 in
set_option maxHeartbeats 4000000 in
theorem k_La_unlit {l : Launch} {g : j_G} {b n : Nat} {P : j_R} {F : Nat} (hF : j_Fx 0 260 P) (hn : 260 ≤ n)  {I : j_M} {r : Int32 × j_M}  (h : f_La_unlit F I = some r) : j_Met l g b n P 1 jy_La_unlit jb_La_unlit 3 (some .int) [.ref (b + 150)] I r.2 (some (.int r.1)) := by
  unfold f_La_unlit at h
  refine j_enter (plainFor_of_name (by decide)) (Nat.le_of_ble_eq_true rfl) [some (.ref (b + 150)), none, none] rfl ?_
  intro p e R s m args below meth c X0 hnm hRc hRs
  have X : j_X p R s m args meth c g b 1 jb_La_unlit 3 "PleasureGarden$Lamps" (some .int) := X0
  clear X0
  refine j_iconst (v := 0) X jd_La_unlit_0 (by decide) ?_
  refine j_istore_n (lv' := [some (.ref (b + 150)), some (.int 0), none]) X jd_La_unlit_1 rfl (by decide) rfl ?_
  refine j_iconst (v := 0) X jd_La_unlit_2 (by decide) ?_
  refine j_istore_n (lv' := [some (.ref (b + 150)), some (.int 0), some (.int 0)]) X jd_La_unlit_3 rfl (by decide) rfl ?_
  exact k_La_unlit_4 hF hn X h
-- PleasureGarden$Lamps.burntOut(I)I
theorem jd_La_burntOut_0 : decode jb_La_burntOut 0 = .ok (.iconst 0, 1) := by decide +kernel
theorem jd_La_burntOut_1 : decode jb_La_burntOut 1 = .ok (.istore_n 2, 1) := by decide +kernel
theorem jd_La_burntOut_2 : decode jb_La_burntOut 2 = .ok (.iconst 0, 1) := by decide +kernel
theorem jd_La_burntOut_3 : decode jb_La_burntOut 3 = .ok (.istore_n 3, 1) := by decide +kernel
theorem jd_La_burntOut_4 : decode jb_La_burntOut 4 = .ok (.iload_n 3, 1) := by decide +kernel
theorem jd_La_burntOut_5 : decode jb_La_burntOut 5 = .ok (.aload_n 0, 1) := by decide +kernel
theorem jd_La_burntOut_6 : decode jb_La_burntOut 6 = .ok (.getfield 7, 3) := by decide +kernel
theorem jd_La_burntOut_9 : decode jb_La_burntOut 9 = .ok (.if_icmp .ge 40, 3) := by decide +kernel
theorem jd_La_burntOut_12 : decode jb_La_burntOut 12 = .ok (.iload_n 2, 1) := by decide +kernel
theorem jd_La_burntOut_13 : decode jb_La_burntOut 13 = .ok (.aload_n 0, 1) := by decide +kernel
theorem jd_La_burntOut_14 : decode jb_La_burntOut 14 = .ok (.iload_n 3, 1) := by decide +kernel
theorem jd_La_burntOut_15 : decode jb_La_burntOut 15 = .ok (.invokevirtual 45, 3) := by decide +kernel
theorem jd_La_burntOut_18 : decode jb_La_burntOut 18 = .ok (.ifCond .eq 22, 3) := by decide +kernel
theorem jd_La_burntOut_21 : decode jb_La_burntOut 21 = .ok (.iload_n 1, 1) := by decide +kernel
theorem jd_La_burntOut_22 : decode jb_La_burntOut 22 = .ok (.aload_n 0, 1) := by decide +kernel
theorem jd_La_burntOut_23 : decode jb_La_burntOut 23 = .ok (.getfield 16, 3) := by decide +kernel
theorem jd_La_burntOut_26 : decode jb_La_burntOut 26 = .ok (.isub, 1) := by decide +kernel
theorem jd_La_burntOut_27 : decode jb_La_burntOut 27 = .ok (.aload_n 0, 1) := by decide +kernel
theorem jd_La_burntOut_28 : decode jb_La_burntOut 28 = .ok (.getfield 19, 3) := by decide +kernel
theorem jd_La_burntOut_31 : decode jb_La_burntOut 31 = .ok (.iload_n 3, 1) := by decide +kernel
theorem jd_La_burntOut_32 : decode jb_La_burntOut 32 = .ok (.iaload, 1) := by decide +kernel
theorem jd_La_burntOut_33 : decode jb_La_burntOut 33 = .ok (.if_icmp .lt 7, 3) := by decide +kernel
theorem jd_La_burntOut_36 : decode jb_La_burntOut 36 = .ok (.iconst 1, 1) := by decide +kernel
theorem jd_La_burntOut_37 : decode jb_La_burntOut 37 = .ok (.goto 4, 3) := by decide +kernel
theorem jd_La_burntOut_40 : decode jb_La_burntOut 40 = .ok (.iconst 0, 1) := by decide +kernel
theorem jd_La_burntOut_41 : decode jb_La_burntOut 41 = .ok (.iadd, 1) := by decide +kernel
theorem jd_La_burntOut_42 : decode jb_La_burntOut 42 = .ok (.istore_n 2, 1) := by decide +kernel
theorem jd_La_burntOut_43 : decode jb_La_burntOut 43 = .ok (.iinc 3 1, 3) := by decide +kernel
theorem jd_La_burntOut_46 : decode jb_La_burntOut 46 = .ok (.goto (-42), 3) := by decide +kernel
theorem jd_La_burntOut_49 : decode jb_La_burntOut 49 = .ok (.iload_n 2, 1) := by decide +kernel
theorem jd_La_burntOut_50 : decode jb_La_burntOut 50 = .ok (.ireturn, 1) := by decide +kernel
def f_La_burntOut_41 (F : Nat) (kb4 : Int32 → Int32 → Int32 → j_M → Option (Int32 × j_M)) (x1 : Int32) (x3 : Int32) (s0 : Int32) (s1 : Int32) (I : j_M) : Option (Int32 × j_M) := j_let (s0 + s1) (fun v1 => j_let (x3 + 1) (fun v2 => kb4 x1 v1 v2 I))
def f_La_burntOut_40 (F : Nat) (kb4 : Int32 → Int32 → Int32 → j_M → Option (Int32 × j_M)) (x1 : Int32) (x3 : Int32) (s0 : Int32) (I : j_M) : Option (Int32 × j_M) := f_La_burntOut_41 F kb4 x1 x3 s0 0 I
def f_La_burntOut_4b (F : Nat) (kb4 : Int32 → Int32 → Int32 → j_M → Option (Int32 × j_M)) (x1 : Int32) (x2 : Int32) (x3 : Int32) (I : j_M) : Option (Int32 × j_M) := (if (I 150 0) ≤ x3 then some (x2, I) else j_bd (f_La_isLit F x3 I) (fun v3 I4 => (if v3 = 0 then f_La_burntOut_40 F kb4 x1 x3 x2 I4 else (if j_ok x3 40 = true then (if (x1 - (I4 150 2)) < (I4 151 (j_ix x3)) then f_La_burntOut_40 F kb4 x1 x3 x2 I4 else f_La_burntOut_41 F kb4 x1 x3 x2 1 I4) else none))))
def f_La_burntOut_4 (F : Nat)  (x1 : Int32) (x2 : Int32) (x3 : Int32) (I : j_M) : Option (Int32 × j_M) := j_it (fun (again : Int32 × Int32 × Int32 × j_M → Option (Int32 × j_M)) (q : Int32 × Int32 × Int32 × j_M) => f_La_burntOut_4b F  (fun x1 x2 x3 I => again (x1, x2, x3, I))  q.1 q.2.1 q.2.2.1 q.2.2.2) F (x1, x2, x3, I)
def f_La_burntOut (F : Nat) (x1 : Int32) (I : j_M) : Option (Int32 × j_M) := f_La_burntOut_4 F x1 0 0 I
set_option maxRecDepth 100000 in
set_option maxHeartbeats 4000000 in
theorem k_La_burntOut_41 {p : Program} {l : Launch} {e : Env} {R : Room} {s : State} {m : MethodId} {args : Array Value} {below : List Frame} {meth : Method} {c : Code} {g : j_G} {b n : Nat} {P : j_R} {F : Nat} (hF : j_Fx 0 260 P) (hn : 260 ≤ n) (X : j_X p R s m args meth c g b 1 jb_La_burntOut 4 "PleasureGarden$Lamps" (some .int)) {kb4 : Int32 → Int32 → Int32 → j_M → Option (Int32 × j_M)} (hkb4 : ∀ (x1 : Int32) (x2 : Int32) (x3 : Int32) (I : j_M) (r : Int32 × j_M), kb4 x1 x2 x3 I = some r → j_W p l e R s m args below meth c 4 g b n 0 0 (j_Qi g b n P below args s r) I P 4 [some (.ref (b + 150)), some (.int x1), some (.int x2), some (.int x3)] []) {x1 : Int32} {x3 : Int32} {s0 : Int32} {s1 : Int32} {I : j_M} {r : Int32 × j_M}  (h : f_La_burntOut_41 F kb4 x1 x3 s0 s1 I = some r) : j_W p l e R s m args below meth c 4 g b n 0 0 (j_Qi g b n P below args s r) I P 41 [some (.ref (b + 150)), some (.int x1), none, some (.int x3)] [.int s1, .int s0] := by
  unfold f_La_burntOut_41 at h
  refine j_iadd X jd_La_burntOut_41 ?_
  refine j_nm h (fun v1 h => ?_)
  refine j_istore_n (lv' := [some (.ref (b + 150)), some (.int x1), some (.int v1), some (.int x3)]) X jd_La_burntOut_42 rfl (by decide) rfl ?_
  obtain ⟨v2, ev2, h⟩ := j_ex h
  refine j_iinc (v := v2) (lv' := [some (.ref (b + 150)), some (.int x1), some (.int v1), some (.int v2)]) X jd_La_burntOut_43 rfl (by rw [ev2]; rfl) (by decide) rfl ?_
  refine j_goto (tgt := 4) X jd_La_burntOut_46 rfl ?_
  exact hkb4 _ _ _ _ _ h
set_option maxRecDepth 100000 in
set_option maxHeartbeats 4000000 in
theorem k_La_burntOut_40 {p : Program} {l : Launch} {e : Env} {R : Room} {s : State} {m : MethodId} {args : Array Value} {below : List Frame} {meth : Method} {c : Code} {g : j_G} {b n : Nat} {P : j_R} {F : Nat} (hF : j_Fx 0 260 P) (hn : 260 ≤ n) (X : j_X p R s m args meth c g b 1 jb_La_burntOut 4 "PleasureGarden$Lamps" (some .int)) {kb4 : Int32 → Int32 → Int32 → j_M → Option (Int32 × j_M)} (hkb4 : ∀ (x1 : Int32) (x2 : Int32) (x3 : Int32) (I : j_M) (r : Int32 × j_M), kb4 x1 x2 x3 I = some r → j_W p l e R s m args below meth c 4 g b n 0 0 (j_Qi g b n P below args s r) I P 4 [some (.ref (b + 150)), some (.int x1), some (.int x2), some (.int x3)] []) {x1 : Int32} {x3 : Int32} {s0 : Int32} {I : j_M} {r : Int32 × j_M}  (h : f_La_burntOut_40 F kb4 x1 x3 s0 I = some r) : j_W p l e R s m args below meth c 4 g b n 0 0 (j_Qi g b n P below args s r) I P 40 [some (.ref (b + 150)), some (.int x1), none, some (.int x3)] [.int s0] := by
  unfold f_La_burntOut_40 at h
  refine j_iconst (v := 0) X jd_La_burntOut_40 (by decide) ?_
  exact k_La_burntOut_41 hF hn X hkb4 h
set_option maxRecDepth 100000 in
set_option maxHeartbeats 4000000 in
theorem k_La_burntOut_4b {p : Program} {l : Launch} {e : Env} {R : Room} {s : State} {m : MethodId} {args : Array Value} {below : List Frame} {meth : Method} {c : Code} {g : j_G} {b n : Nat} {P : j_R} {F : Nat} (hF : j_Fx 0 260 P) (hn : 260 ≤ n) (X : j_X p R s m args meth c g b 1 jb_La_burntOut 4 "PleasureGarden$Lamps" (some .int)) {kb4 : Int32 → Int32 → Int32 → j_M → Option (Int32 × j_M)} (hkb4 : ∀ (x1 : Int32) (x2 : Int32) (x3 : Int32) (I : j_M) (r : Int32 × j_M), kb4 x1 x2 x3 I = some r → j_W p l e R s m args below meth c 4 g b n 0 0 (j_Qi g b n P below args s r) I P 4 [some (.ref (b + 150)), some (.int x1), some (.int x2), some (.int x3)] []) {x1 : Int32} {x2 : Int32} {x3 : Int32} {I : j_M} {r : Int32 × j_M}  (h : f_La_burntOut_4b F kb4 x1 x2 x3 I = some r) : j_W p l e R s m args below meth c 4 g b n 0 0 (j_Qi g b n P below args s r) I P 4 [some (.ref (b + 150)), some (.int x1), some (.int x2), some (.int x3)] [] := by
  unfold f_La_burntOut_4b at h
  refine j_iload_n X jd_La_burntOut_4 rfl rfl ?_
  refine j_aload_n X jd_La_burntOut_5 rfl rfl ?_
  refine j_get X jf_La_7 jk_6_0 js_150 (j_lt rfl hn) jd_La_burntOut_6 ?_
  refine j_icmp_ge (tgt := 49) X jd_La_burntOut_9 rfl h (fun h => ?_) (fun h => ?_)
  · refine j_iload_n X jd_La_burntOut_49 rfl rfl ?_
    exact j_iret X rfl jd_La_burntOut_50 h
  · refine j_iload_n X jd_La_burntOut_12 rfl rfl ?_
    refine j_aload_n X jd_La_burntOut_13 rfl rfl ?_
    refine j_iload_n X jd_La_burntOut_14 rfl rfl ?_
    refine j_callVi (As := [.int x3]) (st := [.int x2]) (c0 := 150) X h jc_La js_150 (j_lt rfl hn) ⟨jqc_La_isLit, jqi_La_isLit, jqv_La_isLit, jqn_La⟩ jlm_La_45 jh_La_isLit rfl (by decide) (by decide) (Nat.le_of_ble_eq_true rfl) ⟨Nat.zero_le _, Nat.zero_le _⟩ (fun v0 I0 h => k_La_isLit (r := (v0, I0)) hF hn h) jd_La_burntOut_15 rfl (fun v3 I4 h => ?_)
    refine j_if_eq (tgt := 40) X jd_La_burntOut_18 rfl h (fun h => ?_) (fun h => ?_)
    · refine j_sub [true, true, false, true] (lv' := [some (.ref (b + 150)), some (.int x1), none, some (.int x3)]) rfl ?_
      exact k_La_burntOut_40 hF hn X hkb4 h
    · refine j_iload_n X jd_La_burntOut_21 rfl rfl ?_
      refine j_aload_n X jd_La_burntOut_22 rfl rfl ?_
      refine j_get X jf_La_16 jk_6_2 js_150 (j_lt rfl hn) jd_La_burntOut_23 ?_
      refine j_isub X jd_La_burntOut_26 ?_
      refine j_aload_n X jd_La_burntOut_27 rfl rfl ?_
      refine j_getr X jf_La_19 jk_6_3 js_150 (j_lt rfl hn) (jp_150_3 hF) jd_La_burntOut_28 ?_
      refine j_iload_n X jd_La_burntOut_31 rfl rfl ?_
      refine j_iald X js_151 (j_lt rfl hn) jd_La_burntOut_32 h (fun _ h => ?_)
      refine j_icmp_lt (tgt := 40) X jd_La_burntOut_33 rfl h (fun h => ?_) (fun h => ?_)
      · refine j_sub [true, true, false, true] (lv' := [some (.ref (b + 150)), some (.int x1), none, some (.int x3)]) rfl ?_
        exact k_La_burntOut_40 hF hn X hkb4 h
      · refine j_iconst (v := 1) X jd_La_burntOut_36 (by decide) ?_
        refine j_goto (tgt := 41) X jd_La_burntOut_37 rfl ?_
        refine j_sub [true, true, false, true] (lv' := [some (.ref (b + 150)), some (.int x1), none, some (.int x3)]) rfl ?_
        exact k_La_burntOut_41 hF hn X hkb4 h
set_option maxRecDepth 100000 in
set_option maxHeartbeats 4000000 in
theorem k_La_burntOut_4 {p : Program} {l : Launch} {e : Env} {R : Room} {s : State} {m : MethodId} {args : Array Value} {below : List Frame} {meth : Method} {c : Code} {g : j_G} {b n : Nat} {P : j_R} {F : Nat} (hF : j_Fx 0 260 P) (hn : 260 ≤ n) (X : j_X p R s m args meth c g b 1 jb_La_burntOut 4 "PleasureGarden$Lamps" (some .int))  {x1 : Int32} {x2 : Int32} {x3 : Int32} {I : j_M} {r : Int32 × j_M} (h : f_La_burntOut_4 F x1 x2 x3 I = some r) : j_W p l e R s m args below meth c 4 g b n 0 0 (j_Qi g b n P below args s r) I P 4 [some (.ref (b + 150)), some (.int x1), some (.int x2), some (.int x3)] [] := by
  refine j_loop (G := fun (q : Int32 × Int32 × Int32 × j_M) (r : Int32 × j_M) => j_W p l e R s m args below meth c 4 g b n 0 0 (j_Qi g b n P below args s r) q.2.2.2 P 4 [some (.ref (b + 150)), some (.int (q.1)), some (.int (q.2.1)), some (.int (q.2.2.1))] []) ?_ F (x1, x2, x3, I) r h
  intro again hrec0 q r h
  exact k_La_burntOut_4b hF hn X (fun x1 x2 x3 I r h => hrec0 (x1, x2, x3, I) r h)  h
set_option maxRecDepth 100000 in
set_option maxHeartbeats 4000000 in
theorem k_La_burntOut {l : Launch} {g : j_G} {b n : Nat} {P : j_R} {F : Nat} (hF : j_Fx 0 260 P) (hn : 260 ≤ n) {x1 : Int32} {I : j_M} {r : Int32 × j_M}  (h : f_La_burntOut F x1 I = some r) : j_Met l g b n P 1 jy_La_burntOut jb_La_burntOut 4 (some .int) [.ref (b + 150), .int x1] I r.2 (some (.int r.1)) := by
  unfold f_La_burntOut at h
  refine j_enter (plainFor_of_name (by decide)) (Nat.le_of_ble_eq_true rfl) [some (.ref (b + 150)), some (.int x1), none, none] rfl ?_
  intro p e R s m args below meth c X0 hnm hRc hRs
  have X : j_X p R s m args meth c g b 1 jb_La_burntOut 4 "PleasureGarden$Lamps" (some .int) := X0
  clear X0
  refine j_iconst (v := 0) X jd_La_burntOut_0 (by decide) ?_
  refine j_istore_n (lv' := [some (.ref (b + 150)), some (.int x1), some (.int 0), none]) X jd_La_burntOut_1 rfl (by decide) rfl ?_
  refine j_iconst (v := 0) X jd_La_burntOut_2 (by decide) ?_
  refine j_istore_n (lv' := [some (.ref (b + 150)), some (.int x1), some (.int 0), some (.int 0)]) X jd_La_burntOut_3 rfl (by decide) rfl ?_
  exact k_La_burntOut_4 hF hn X h
-- PleasureGarden$Lamps.kindle(III)I
theorem jd_La_kindle_0 : decode jb_La_kindle 0 = .ok (.iconst 0, 1) := by decide +kernel
theorem jd_La_kindle_1 : decode jb_La_kindle 1 = .ok (.istore 4, 2) := by decide +kernel
theorem jd_La_kindle_3 : decode jb_La_kindle 3 = .ok (.iconst 0, 1) := by decide +kernel
theorem jd_La_kindle_4 : decode jb_La_kindle 4 = .ok (.istore 5, 2) := by decide +kernel
theorem jd_La_kindle_6 : decode jb_La_kindle 6 = .ok (.iload 5, 2) := by decide +kernel
theorem jd_La_kindle_8 : decode jb_La_kindle 8 = .ok (.aload_n 0, 1) := by decide +kernel
theorem jd_La_kindle_9 : decode jb_La_kindle 9 = .ok (.getfield 7, 3) := by decide +kernel
theorem jd_La_kindle_12 : decode jb_La_kindle 12 = .ok (.if_icmp .ge 38, 3) := by decide +kernel
theorem jd_La_kindle_15 : decode jb_La_kindle 15 = .ok (.aload_n 0, 1) := by decide +kernel
theorem jd_La_kindle_16 : decode jb_La_kindle 16 = .ok (.getfield 23, 3) := by decide +kernel
theorem jd_La_kindle_19 : decode jb_La_kindle 19 = .ok (.iload 5, 2) := by decide +kernel
theorem jd_La_kindle_21 : decode jb_La_kindle 21 = .ok (.aload_n 0, 1) := by decide +kernel
theorem jd_La_kindle_22 : decode jb_La_kindle 22 = .ok (.iload 5, 2) := by decide +kernel
theorem jd_La_kindle_24 : decode jb_La_kindle 24 = .ok (.iload_n 1, 1) := by decide +kernel
theorem jd_La_kindle_25 : decode jb_La_kindle 25 = .ok (.iload_n 2, 1) := by decide +kernel
theorem jd_La_kindle_26 : decode jb_La_kindle 26 = .ok (.invokevirtual 38, 3) := by decide +kernel
theorem jd_La_kindle_29 : decode jb_La_kindle 29 = .ok (.iastore, 1) := by decide +kernel
theorem jd_La_kindle_30 : decode jb_La_kindle 30 = .ok (.iload 4, 2) := by decide +kernel
theorem jd_La_kindle_32 : decode jb_La_kindle 32 = .ok (.aload_n 0, 1) := by decide +kernel
theorem jd_La_kindle_33 : decode jb_La_kindle 33 = .ok (.getfield 23, 3) := by decide +kernel
theorem jd_La_kindle_36 : decode jb_La_kindle 36 = .ok (.iload 5, 2) := by decide +kernel
theorem jd_La_kindle_38 : decode jb_La_kindle 38 = .ok (.iaload, 1) := by decide +kernel
theorem jd_La_kindle_39 : decode jb_La_kindle 39 = .ok (.invokestatic 42, 3) := by decide +kernel
theorem jd_La_kindle_42 : decode jb_La_kindle 42 = .ok (.istore 4, 2) := by decide +kernel
theorem jd_La_kindle_44 : decode jb_La_kindle 44 = .ok (.iinc 5 1, 3) := by decide +kernel
theorem jd_La_kindle_47 : decode jb_La_kindle 47 = .ok (.goto (-41), 3) := by decide +kernel
theorem jd_La_kindle_50 : decode jb_La_kindle 50 = .ok (.aload_n 0, 1) := by decide +kernel
theorem jd_La_kindle_51 : decode jb_La_kindle 51 = .ok (.iload_n 3, 1) := by decide +kernel
theorem jd_La_kindle_52 : decode jb_La_kindle 52 = .ok (.putfield 16, 3) := by decide +kernel
theorem jd_La_kindle_55 : decode jb_La_kindle 55 = .ok (.iload 4, 2) := by decide +kernel
theorem jd_La_kindle_57 : decode jb_La_kindle 57 = .ok (.ireturn, 1) := by decide +kernel
def f_La_kindle_6b (F : Nat) (kb6 : Int32 → Int32 → Int32 → Int32 → Int32 → j_M → Option (Int32 × j_M)) (x1 : Int32) (x2 : Int32) (x3 : Int32) (x4 : Int32) (x5 : Int32) (I : j_M) : Option (Int32 × j_M) := (if (I 150 0) ≤ x5 then j_let (j_wr I 150 2 x3) (fun I1 => some (x4, I1)) else j_bd (f_La_secondOf F x5 x1 x2 I) (fun v2 I3 => (if j_ok x5 40 = true then j_let (j_wr I3 152 (j_ix x5) v2) (fun I4 => (if j_ok x5 40 = true then j_let (if x4 < (I4 152 (j_ix x5)) then (I4 152 (j_ix x5)) else x4) (fun v5 => j_let (x5 + 1) (fun v6 => kb6 x1 x2 x3 v5 v6 I4)) else none)) else none)))
def f_La_kindle_6 (F : Nat)  (x1 : Int32) (x2 : Int32) (x3 : Int32) (x4 : Int32) (x5 : Int32) (I : j_M) : Option (Int32 × j_M) := j_it (fun (again : Int32 × Int32 × Int32 × Int32 × Int32 × j_M → Option (Int32 × j_M)) (q : Int32 × Int32 × Int32 × Int32 × Int32 × j_M) => f_La_kindle_6b F  (fun x1 x2 x3 x4 x5 I => again (x1, x2, x3, x4, x5, I))  q.1 q.2.1 q.2.2.1 q.2.2.2.1 q.2.2.2.2.1 q.2.2.2.2.2) F (x1, x2, x3, x4, x5, I)
def f_La_kindle (F : Nat) (x1 : Int32) (x2 : Int32) (x3 : Int32) (I : j_M) : Option (Int32 × j_M) := f_La_kindle_6 F x1 x2 x3 0 0 I
set_option maxRecDepth 100000 in
set_option maxHeartbeats 4000000 in
theorem k_La_kindle_6b {p : Program} {l : Launch} {e : Env} {R : Room} {s : State} {m : MethodId} {args : Array Value} {below : List Frame} {meth : Method} {c : Code} {g : j_G} {b n : Nat} {P : j_R} {F : Nat} (hF : j_Fx 0 260 P) (hn : 260 ≤ n) (X : j_X p R s m args meth c g b 2 jb_La_kindle 6 "PleasureGarden$Lamps" (some .int)) {kb6 : Int32 → Int32 → Int32 → Int32 → Int32 → j_M → Option (Int32 × j_M)} (hkb6 : ∀ (x1 : Int32) (x2 : Int32) (x3 : Int32) (x4 : Int32) (x5 : Int32) (I : j_M) (r : Int32 × j_M), kb6 x1 x2 x3 x4 x5 I = some r → j_W p l e R s m args below meth c 6 g b n 0 0 (j_Qi g b n P below args s r) I P 6 [some (.ref (b + 150)), some (.int x1), some (.int x2), some (.int x3), some (.int x4), some (.int x5)] []) {x1 : Int32} {x2 : Int32} {x3 : Int32} {x4 : Int32} {x5 : Int32} {I : j_M} {r : Int32 × j_M}  (h : f_La_kindle_6b F kb6 x1 x2 x3 x4 x5 I = some r) : j_W p l e R s m args below meth c 6 g b n 0 0 (j_Qi g b n P below args s r) I P 6 [some (.ref (b + 150)), some (.int x1), some (.int x2), some (.int x3), some (.int x4), some (.int x5)] [] := by
  unfold f_La_kindle_6b at h
  refine j_iload X jd_La_kindle_6 rfl ?_
  refine j_aload_n X jd_La_kindle_8 rfl rfl ?_
  refine j_get X jf_La_7 jk_6_0 js_150 (j_lt rfl hn) jd_La_kindle_9 ?_
  refine j_icmp_ge (tgt := 50) X jd_La_kindle_12 rfl h (fun h => ?_) (fun h => ?_)
  · refine j_aload_n X jd_La_kindle_50 rfl rfl ?_
    refine j_iload_n X jd_La_kindle_51 rfl rfl ?_
    refine j_puti X jt_La jto_La jn_La jf_La_16 jk_6_2 js_150 (j_lt rfl hn) (Or.inl rfl) rfl jd_La_kindle_52 ?_
    refine j_mem h (fun I1 h => ?_)
    refine j_iload X jd_La_kindle_55 rfl ?_
    exact j_iret X rfl jd_La_kindle_57 h
  · refine j_aload_n X jd_La_kindle_15 rfl rfl ?_
    refine j_getr X jf_La_23 jk_6_4 js_150 (j_lt rfl hn) (jp_150_4 hF) jd_La_kindle_16 ?_
    refine j_iload X jd_La_kindle_19 rfl ?_
    refine j_aload_n X jd_La_kindle_21 rfl rfl ?_
    refine j_iload X jd_La_kindle_22 rfl ?_
    refine j_iload_n X jd_La_kindle_24 rfl rfl ?_
    refine j_iload_n X jd_La_kindle_25 rfl rfl ?_
    refine j_callVi (As := [.int x5, .int x1, .int x2]) (st := [.int x5, .ref (b + 152)]) (c0 := 150) X h jc_La js_150 (j_lt rfl hn) ⟨jqc_La_secondOf, jqi_La_secondOf, jqv_La_secondOf, jqn_La⟩ jlm_La_38 jh_La_secondOf rfl (by decide) (by decide) (Nat.le_of_ble_eq_true rfl) ⟨Nat.zero_le _, Nat.zero_le _⟩ (fun v0 I0 h => k_La_secondOf (r := (v0, I0)) hF hn h) jd_La_kindle_26 rfl (fun v2 I3 h => ?_)
    refine j_iast X js_152 (j_lt rfl hn) jd_La_kindle_29 h (fun h => ?_)
    refine j_mem h (fun I4 h => ?_)
    refine j_iload X jd_La_kindle_30 rfl ?_
    refine j_aload_n X jd_La_kindle_32 rfl rfl ?_
    refine j_getr X jf_La_23 jk_6_4 js_150 (j_lt rfl hn) (jp_150_4 hF) jd_La_kindle_33 ?_
    refine j_iload X jd_La_kindle_36 rfl ?_
    refine j_iald X js_152 (j_lt rfl hn) jd_La_kindle_38 h (fun _ h => ?_)
    refine j_mmax (st := []) X jlm_La_42 (by decide) (Nat.le_of_ble_eq_true rfl) ⟨Nat.zero_le _, Nat.zero_le _⟩ jd_La_kindle_39 ?_
    refine j_nm h (fun v5 h => ?_)
    refine j_istore (lv' := [some (.ref (b + 150)), some (.int x1), some (.int x2), some (.int x3), some (.int v5), some (.int x5)]) X jd_La_kindle_42 (by decide) rfl ?_
    obtain ⟨v6, ev6, h⟩ := j_ex h
    refine j_iinc (v := v6) (lv' := [some (.ref (b + 150)), some (.int x1), some (.int x2), some (.int x3), some (.int v5), some (.int v6)]) X jd_La_kindle_44 rfl (by rw [ev6]; rfl) (by decide) rfl ?_
    refine j_goto (tgt := 6) X jd_La_kindle_47 rfl ?_
    exact hkb6 _ _ _ _ _ _ _ h
set_option maxRecDepth 100000 in
set_option maxHeartbeats 4000000 in
theorem k_La_kindle_6 {p : Program} {l : Launch} {e : Env} {R : Room} {s : State} {m : MethodId} {args : Array Value} {below : List Frame} {meth : Method} {c : Code} {g : j_G} {b n : Nat} {P : j_R} {F : Nat} (hF : j_Fx 0 260 P) (hn : 260 ≤ n) (X : j_X p R s m args meth c g b 2 jb_La_kindle 6 "PleasureGarden$Lamps" (some .int))  {x1 : Int32} {x2 : Int32} {x3 : Int32} {x4 : Int32} {x5 : Int32} {I : j_M} {r : Int32 × j_M} (h : f_La_kindle_6 F x1 x2 x3 x4 x5 I = some r) : j_W p l e R s m args below meth c 6 g b n 0 0 (j_Qi g b n P below args s r) I P 6 [some (.ref (b + 150)), some (.int x1), some (.int x2), some (.int x3), some (.int x4), some (.int x5)] [] := by
  refine j_loop (G := fun (q : Int32 × Int32 × Int32 × Int32 × Int32 × j_M) (r : Int32 × j_M) => j_W p l e R s m args below meth c 6 g b n 0 0 (j_Qi g b n P below args s r) q.2.2.2.2.2 P 6 [some (.ref (b + 150)), some (.int (q.1)), some (.int (q.2.1)), some (.int (q.2.2.1)), some (.int (q.2.2.2.1)), some (.int (q.2.2.2.2.1))] []) ?_ F (x1, x2, x3, x4, x5, I) r h
  intro again hrec0 q r h
  exact k_La_kindle_6b hF hn X (fun x1 x2 x3 x4 x5 I r h => hrec0 (x1, x2, x3, x4, x5, I) r h)  h
set_option maxRecDepth 100000 in
set_option maxHeartbeats 4000000 in
theorem k_La_kindle {l : Launch} {g : j_G} {b n : Nat} {P : j_R} {F : Nat} (hF : j_Fx 0 260 P) (hn : 260 ≤ n) {x1 : Int32} {x2 : Int32} {x3 : Int32} {I : j_M} {r : Int32 × j_M}  (h : f_La_kindle F x1 x2 x3 I = some r) : j_Met l g b n P 2 jy_La_kindle jb_La_kindle 6 (some .int) [.ref (b + 150), .int x1, .int x2, .int x3] I r.2 (some (.int r.1)) := by
  unfold f_La_kindle at h
  refine j_enter (plainFor_of_name (by decide)) (Nat.le_of_ble_eq_true rfl) [some (.ref (b + 150)), some (.int x1), some (.int x2), some (.int x3), none, none] rfl ?_
  intro p e R s m args below meth c X0 hnm hRc hRs
  have X : j_X p R s m args meth c g b 2 jb_La_kindle 6 "PleasureGarden$Lamps" (some .int) := X0
  clear X0
  refine j_iconst (v := 0) X jd_La_kindle_0 (by decide) ?_
  refine j_istore (lv' := [some (.ref (b + 150)), some (.int x1), some (.int x2), some (.int x3), some (.int 0), none]) X jd_La_kindle_1 (by decide) rfl ?_
  refine j_iconst (v := 0) X jd_La_kindle_3 (by decide) ?_
  refine j_istore (lv' := [some (.ref (b + 150)), some (.int x1), some (.int x2), some (.int x3), some (.int 0), some (.int 0)]) X jd_La_kindle_4 (by decide) rfl ?_
  exact k_La_kindle_6 hF hn X h
-- PleasureGarden$Lamps.costOf(II)I
theorem jd_La_costOf_0 : decode jb_La_costOf 0 = .ok (.iconst 0, 1) := by decide +kernel
theorem jd_La_costOf_1 : decode jb_La_costOf 1 = .ok (.istore_n 3, 1) := by decide +kernel
theorem jd_La_costOf_2 : decode jb_La_costOf 2 = .ok (.iconst 0, 1) := by decide +kernel
theorem jd_La_costOf_3 : decode jb_La_costOf 3 = .ok (.istore 4, 2) := by decide +kernel
theorem jd_La_costOf_5 : decode jb_La_costOf 5 = .ok (.iconst 0, 1) := by decide +kernel
theorem jd_La_costOf_6 : decode jb_La_costOf 6 = .ok (.istore 5, 2) := by decide +kernel
theorem jd_La_costOf_8 : decode jb_La_costOf 8 = .ok (.iload 5, 2) := by decide +kernel
theorem jd_La_costOf_10 : decode jb_La_costOf 10 = .ok (.aload_n 0, 1) := by decide +kernel
theorem jd_La_costOf_11 : decode jb_La_costOf 11 = .ok (.getfield 7, 3) := by decide +kernel
theorem jd_La_costOf_14 : decode jb_La_costOf 14 = .ok (.if_icmp .ge 42, 3) := by decide +kernel
theorem jd_La_costOf_17 : decode jb_La_costOf 17 = .ok (.aload_n 0, 1) := by decide +kernel
theorem jd_La_costOf_18 : decode jb_La_costOf 18 = .ok (.iload 5, 2) := by decide +kernel
theorem jd_La_costOf_20 : decode jb_La_costOf 20 = .ok (.iload_n 1, 1) := by decide +kernel
theorem jd_La_costOf_21 : decode jb_La_costOf 21 = .ok (.iload_n 2, 1) := by decide +kernel
theorem jd_La_costOf_22 : decode jb_La_costOf 22 = .ok (.invokevirtual 38, 3) := by decide +kernel
theorem jd_La_costOf_25 : decode jb_La_costOf 25 = .ok (.istore 6, 2) := by decide +kernel
theorem jd_La_costOf_27 : decode jb_La_costOf 27 = .ok (.iload_n 3, 1) := by decide +kernel
theorem jd_La_costOf_28 : decode jb_La_costOf 28 = .ok (.iload 6, 2) := by decide +kernel
theorem jd_La_costOf_30 : decode jb_La_costOf 30 = .ok (.invokestatic 42, 3) := by decide +kernel
theorem jd_La_costOf_33 : decode jb_La_costOf 33 = .ok (.istore_n 3, 1) := by decide +kernel
theorem jd_La_costOf_34 : decode jb_La_costOf 34 = .ok (.iload 4, 2) := by decide +kernel
theorem jd_La_costOf_36 : decode jb_La_costOf 36 = .ok (.iload 6, 2) := by decide +kernel
theorem jd_La_costOf_38 : decode jb_La_costOf 38 = .ok (.iconst (-1), 1) := by decide +kernel
theorem jd_La_costOf_39 : decode jb_La_costOf 39 = .ok (.if_icmp .ne 7, 3) := by decide +kernel
theorem jd_La_costOf_42 : decode jb_La_costOf 42 = .ok (.iconst 1, 1) := by decide +kernel
theorem jd_La_costOf_43 : decode jb_La_costOf 43 = .ok (.goto 4, 3) := by decide +kernel
theorem jd_La_costOf_46 : decode jb_La_costOf 46 = .ok (.iconst 0, 1) := by decide +kernel
theorem jd_La_costOf_47 : decode jb_La_costOf 47 = .ok (.iadd, 1) := by decide +kernel
theorem jd_La_costOf_48 : decode jb_La_costOf 48 = .ok (.istore 4, 2) := by decide +kernel
theorem jd_La_costOf_50 : decode jb_La_costOf 50 = .ok (.iinc 5 1, 3) := by decide +kernel
theorem jd_La_costOf_53 : decode jb_La_costOf 53 = .ok (.goto (-45), 3) := by decide +kernel
theorem jd_La_costOf_56 : decode jb_La_costOf 56 = .ok (.iload 4, 2) := by decide +kernel
theorem jd_La_costOf_58 : decode jb_La_costOf 58 = .ok (.sipush 10000, 3) := by decide +kernel
theorem jd_La_costOf_61 : decode jb_La_costOf 61 = .ok (.imul, 1) := by decide +kernel
theorem jd_La_costOf_62 : decode jb_La_costOf 62 = .ok (.iload_n 3, 1) := by decide +kernel
theorem jd_La_costOf_63 : decode jb_La_costOf 63 = .ok (.iadd, 1) := by decide +kernel
theorem jd_La_costOf_64 : decode jb_La_costOf 64 = .ok (.ireturn, 1) := by decide +kernel
def f_La_costOf_47 (F : Nat) (kb8 : Int32 → Int32 → Int32 → Int32 → Int32 → j_M → Option (Int32 × j_M)) (x1 : Int32) (x2 : Int32) (x3 : Int32) (x5 : Int32) (s0 : Int32) (s1 : Int32) (I : j_M) : Option (Int32 × j_M) := j_let (s0 + s1) (fun v1 => j_let (x5 + 1) (fun v2 => kb8 x1 x2 x3 v1 v2 I))
def f_La_costOf_8b (F : Nat) (kb8 : Int32 → Int32 → Int32 → Int32 → Int32 → j_M → Option (Int32 × j_M)) (x1 : Int32) (x2 : Int32) (x3 : Int32) (x4 : Int32) (x5 : Int32) (I : j_M) : Option (Int32 × j_M) := (if (I 150 0) ≤ x5 then some ((x4 * 10000) + x3, I) else j_bd (f_La_secondOf F x5 x1 x2 I) (fun v3 I4 => j_let (if x3 < v3 then v3 else x3) (fun v5 => (if v3 = (-1) then f_La_costOf_47 F kb8 x1 x2 v5 x5 x4 1 I4 else f_La_costOf_47 F kb8 x1 x2 v5 x5 x4 0 I4))))
def f_La_costOf_8 (F : Nat)  (x1 : Int32) (x2 : Int32) (x3 : Int32) (x4 : Int32) (x5 : Int32) (I : j_M) : Option (Int32 × j_M) := j_it (fun (again : Int32 × Int32 × Int32 × Int32 × Int32 × j_M → Option (Int32 × j_M)) (q : Int32 × Int32 × Int32 × Int32 × Int32 × j_M) => f_La_costOf_8b F  (fun x1 x2 x3 x4 x5 I => again (x1, x2, x3, x4, x5, I))  q.1 q.2.1 q.2.2.1 q.2.2.2.1 q.2.2.2.2.1 q.2.2.2.2.2) F (x1, x2, x3, x4, x5, I)
def f_La_costOf (F : Nat) (x1 : Int32) (x2 : Int32) (I : j_M) : Option (Int32 × j_M) := f_La_costOf_8 F x1 x2 0 0 0 I
set_option maxRecDepth 100000 in
set_option maxHeartbeats 4000000 in
theorem k_La_costOf_47 {p : Program} {l : Launch} {e : Env} {R : Room} {s : State} {m : MethodId} {args : Array Value} {below : List Frame} {meth : Method} {c : Code} {g : j_G} {b n : Nat} {P : j_R} {F : Nat} (hF : j_Fx 0 260 P) (hn : 260 ≤ n) (X : j_X p R s m args meth c g b 2 jb_La_costOf 7 "PleasureGarden$Lamps" (some .int)) {kb8 : Int32 → Int32 → Int32 → Int32 → Int32 → j_M → Option (Int32 × j_M)} (hkb8 : ∀ (x1 : Int32) (x2 : Int32) (x3 : Int32) (x4 : Int32) (x5 : Int32) (I : j_M) (r : Int32 × j_M), kb8 x1 x2 x3 x4 x5 I = some r → j_W p l e R s m args below meth c 7 g b n 0 0 (j_Qi g b n P below args s r) I P 8 [some (.ref (b + 150)), some (.int x1), some (.int x2), some (.int x3), some (.int x4), some (.int x5), none] []) {x1 : Int32} {x2 : Int32} {x3 : Int32} {x5 : Int32} {s0 : Int32} {s1 : Int32} {I : j_M} {r : Int32 × j_M}  (h : f_La_costOf_47 F kb8 x1 x2 x3 x5 s0 s1 I = some r) : j_W p l e R s m args below meth c 7 g b n 0 0 (j_Qi g b n P below args s r) I P 47 [some (.ref (b + 150)), some (.int x1), some (.int x2), some (.int x3), none, some (.int x5), none] [.int s1, .int s0] := by
  unfold f_La_costOf_47 at h
  refine j_iadd X jd_La_costOf_47 ?_
  refine j_nm h (fun v1 h => ?_)
  refine j_istore (lv' := [some (.ref (b + 150)), some (.int x1), some (.int x2), some (.int x3), some (.int v1), some (.int x5), none]) X jd_La_costOf_48 (by decide) rfl ?_
  obtain ⟨v2, ev2, h⟩ := j_ex h
  refine j_iinc (v := v2) (lv' := [some (.ref (b + 150)), some (.int x1), some (.int x2), some (.int x3), some (.int v1), some (.int v2), none]) X jd_La_costOf_50 rfl (by rw [ev2]; rfl) (by decide) rfl ?_
  refine j_goto (tgt := 8) X jd_La_costOf_53 rfl ?_
  exact hkb8 _ _ _ _ _ _ _ h
set_option maxRecDepth 100000 in
set_option maxHeartbeats 4000000 in
theorem k_La_costOf_8b {p : Program} {l : Launch} {e : Env} {R : Room} {s : State} {m : MethodId} {args : Array Value} {below : List Frame} {meth : Method} {c : Code} {g : j_G} {b n : Nat} {P : j_R} {F : Nat} (hF : j_Fx 0 260 P) (hn : 260 ≤ n) (X : j_X p R s m args meth c g b 2 jb_La_costOf 7 "PleasureGarden$Lamps" (some .int)) {kb8 : Int32 → Int32 → Int32 → Int32 → Int32 → j_M → Option (Int32 × j_M)} (hkb8 : ∀ (x1 : Int32) (x2 : Int32) (x3 : Int32) (x4 : Int32) (x5 : Int32) (I : j_M) (r : Int32 × j_M), kb8 x1 x2 x3 x4 x5 I = some r → j_W p l e R s m args below meth c 7 g b n 0 0 (j_Qi g b n P below args s r) I P 8 [some (.ref (b + 150)), some (.int x1), some (.int x2), some (.int x3), some (.int x4), some (.int x5), none] []) {x1 : Int32} {x2 : Int32} {x3 : Int32} {x4 : Int32} {x5 : Int32} {I : j_M} {r : Int32 × j_M}  (h : f_La_costOf_8b F kb8 x1 x2 x3 x4 x5 I = some r) : j_W p l e R s m args below meth c 7 g b n 0 0 (j_Qi g b n P below args s r) I P 8 [some (.ref (b + 150)), some (.int x1), some (.int x2), some (.int x3), some (.int x4), some (.int x5), none] [] := by
  unfold f_La_costOf_8b at h
  refine j_iload X jd_La_costOf_8 rfl ?_
  refine j_aload_n X jd_La_costOf_10 rfl rfl ?_
  refine j_get X jf_La_7 jk_6_0 js_150 (j_lt rfl hn) jd_La_costOf_11 ?_
  refine j_icmp_ge (tgt := 56) X jd_La_costOf_14 rfl h (fun h => ?_) (fun h => ?_)
  · refine j_iload X jd_La_costOf_56 rfl ?_
    refine j_sipush (v := 10000) X jd_La_costOf_58 (by decide) ?_
    refine j_imul X jd_La_costOf_61 ?_
    refine j_iload_n X jd_La_costOf_62 rfl rfl ?_
    refine j_iadd X jd_La_costOf_63 ?_
    exact j_iret X rfl jd_La_costOf_64 h
  · refine j_aload_n X jd_La_costOf_17 rfl rfl ?_
    refine j_iload X jd_La_costOf_18 rfl ?_
    refine j_iload_n X jd_La_costOf_20 rfl rfl ?_
    refine j_iload_n X jd_La_costOf_21 rfl rfl ?_
    refine j_callVi (As := [.int x5, .int x1, .int x2]) (st := []) (c0 := 150) X h jc_La js_150 (j_lt rfl hn) ⟨jqc_La_secondOf, jqi_La_secondOf, jqv_La_secondOf, jqn_La⟩ jlm_La_38 jh_La_secondOf rfl (by decide) (by decide) (Nat.le_of_ble_eq_true rfl) ⟨Nat.zero_le _, Nat.zero_le _⟩ (fun v0 I0 h => k_La_secondOf (r := (v0, I0)) hF hn h) jd_La_costOf_22 rfl (fun v3 I4 h => ?_)
    refine j_istore (lv' := [some (.ref (b + 150)), some (.int x1), some (.int x2), some (.int x3), some (.int x4), some (.int x5), some (.int v3)]) X jd_La_costOf_25 (by decide) rfl ?_
    refine j_iload_n X jd_La_costOf_27 rfl rfl ?_
    refine j_iload X jd_La_costOf_28 rfl ?_
    refine j_mmax (st := []) X jlm_La_42 (by decide) (Nat.le_of_ble_eq_true rfl) ⟨Nat.zero_le _, Nat.zero_le _⟩ jd_La_costOf_30 ?_
    refine j_nm h (fun v5 h => ?_)
    refine j_istore_n (lv' := [some (.ref (b + 150)), some (.int x1), some (.int x2), some (.int v5), some (.int x4), some (.int x5), some (.int v3)]) X jd_La_costOf_33 rfl (by decide) rfl ?_
    refine j_iload X jd_La_costOf_34 rfl ?_
    refine j_iload X jd_La_costOf_36 rfl ?_
    refine j_iconst (v := (-1)) X jd_La_costOf_38 (by decide) ?_
    refine j_icmp_ne (tgt := 46) X jd_La_costOf_39 rfl h (fun h => ?_) (fun h => ?_)
    · refine j_iconst (v := 1) X jd_La_costOf_42 (by decide) ?_
      refine j_goto (tgt := 47) X jd_La_costOf_43 rfl ?_
      refine j_sub [true, true, true, true, false, true, false] (lv' := [some (.ref (b + 150)), some (.int x1), some (.int x2), some (.int v5), none, some (.int x5), none]) rfl ?_
      exact k_La_costOf_47 hF hn X hkb8 h
    · refine j_iconst (v := 0) X jd_La_costOf_46 (by decide) ?_
      refine j_sub [true, true, true, true, false, true, false] (lv' := [some (.ref (b + 150)), some (.int x1), some (.int x2), some (.int v5), none, some (.int x5), none]) rfl ?_
      exact k_La_costOf_47 hF hn X hkb8 h
set_option maxRecDepth 100000 in
set_option maxHeartbeats 4000000 in
theorem k_La_costOf_8 {p : Program} {l : Launch} {e : Env} {R : Room} {s : State} {m : MethodId} {args : Array Value} {below : List Frame} {meth : Method} {c : Code} {g : j_G} {b n : Nat} {P : j_R} {F : Nat} (hF : j_Fx 0 260 P) (hn : 260 ≤ n) (X : j_X p R s m args meth c g b 2 jb_La_costOf 7 "PleasureGarden$Lamps" (some .int))  {x1 : Int32} {x2 : Int32} {x3 : Int32} {x4 : Int32} {x5 : Int32} {I : j_M} {r : Int32 × j_M} (h : f_La_costOf_8 F x1 x2 x3 x4 x5 I = some r) : j_W p l e R s m args below meth c 7 g b n 0 0 (j_Qi g b n P below args s r) I P 8 [some (.ref (b + 150)), some (.int x1), some (.int x2), some (.int x3), some (.int x4), some (.int x5), none] [] := by
  refine j_loop (G := fun (q : Int32 × Int32 × Int32 × Int32 × Int32 × j_M) (r : Int32 × j_M) => j_W p l e R s m args below meth c 7 g b n 0 0 (j_Qi g b n P below args s r) q.2.2.2.2.2 P 8 [some (.ref (b + 150)), some (.int (q.1)), some (.int (q.2.1)), some (.int (q.2.2.1)), some (.int (q.2.2.2.1)), some (.int (q.2.2.2.2.1)), none] []) ?_ F (x1, x2, x3, x4, x5, I) r h
  intro again hrec0 q r h
  exact k_La_costOf_8b hF hn X (fun x1 x2 x3 x4 x5 I r h => hrec0 (x1, x2, x3, x4, x5, I) r h)  h
set_option maxRecDepth 100000 in
set_option maxHeartbeats 4000000 in
theorem k_La_costOf {l : Launch} {g : j_G} {b n : Nat} {P : j_R} {F : Nat} (hF : j_Fx 0 260 P) (hn : 260 ≤ n) {x1 : Int32} {x2 : Int32} {I : j_M} {r : Int32 × j_M}  (h : f_La_costOf F x1 x2 I = some r) : j_Met l g b n P 2 jy_La_costOf jb_La_costOf 7 (some .int) [.ref (b + 150), .int x1, .int x2] I r.2 (some (.int r.1)) := by
  unfold f_La_costOf at h
  refine j_enter (plainFor_of_name (by decide)) (Nat.le_of_ble_eq_true rfl) [some (.ref (b + 150)), some (.int x1), some (.int x2), none, none, none, none] rfl ?_
  intro p e R s m args below meth c X0 hnm hRc hRs
  have X : j_X p R s m args meth c g b 2 jb_La_costOf 7 "PleasureGarden$Lamps" (some .int) := X0
  clear X0
  refine j_iconst (v := 0) X jd_La_costOf_0 (by decide) ?_
  refine j_istore_n (lv' := [some (.ref (b + 150)), some (.int x1), some (.int x2), some (.int 0), none, none, none]) X jd_La_costOf_1 rfl (by decide) rfl ?_
  refine j_iconst (v := 0) X jd_La_costOf_2 (by decide) ?_
  refine j_istore (lv' := [some (.ref (b + 150)), some (.int x1), some (.int x2), some (.int 0), some (.int 0), none, none]) X jd_La_costOf_3 (by decide) rfl ?_
  refine j_iconst (v := 0) X jd_La_costOf_5 (by decide) ?_
  refine j_istore (lv' := [some (.ref (b + 150)), some (.int x1), some (.int x2), some (.int 0), some (.int 0), some (.int 0), none]) X jd_La_costOf_6 (by decide) rfl ?_
  exact k_La_costOf_8 hF hn X h
-- PleasureGarden$Lamps.bestStart(I)I
theorem jd_La_bestStart_0 : decode jb_La_bestStart 0 = .ok (.iconst (-1), 1) := by decide +kernel
theorem jd_La_bestStart_1 : decode jb_La_bestStart 1 = .ok (.istore_n 2, 1) := by decide +kernel
theorem jd_La_bestStart_2 : decode jb_La_bestStart 2 = .ok (.ldc 31, 2) := by decide +kernel
theorem jd_La_bestStart_4 : decode jb_La_bestStart 4 = .ok (.istore_n 3, 1) := by decide +kernel
theorem jd_La_bestStart_5 : decode jb_La_bestStart 5 = .ok (.iconst 0, 1) := by decide +kernel
theorem jd_La_bestStart_6 : decode jb_La_bestStart 6 = .ok (.istore 4, 2) := by decide +kernel
theorem jd_La_bestStart_8 : decode jb_La_bestStart 8 = .ok (.iload 4, 2) := by decide +kernel
theorem jd_La_bestStart_10 : decode jb_La_bestStart 10 = .ok (.aload_n 0, 1) := by decide +kernel
theorem jd_La_bestStart_11 : decode jb_La_bestStart 11 = .ok (.getfield 7, 3) := by decide +kernel
theorem jd_La_bestStart_14 : decode jb_La_bestStart 14 = .ok (.if_icmp .ge 98, 3) := by decide +kernel
theorem jd_La_bestStart_17 : decode jb_La_bestStart 17 = .ok (.iload_n 1, 1) := by decide +kernel
theorem jd_La_bestStart_18 : decode jb_La_bestStart 18 = .ok (.iconst 1, 1) := by decide +kernel
theorem jd_La_bestStart_19 : decode jb_La_bestStart 19 = .ok (.if_icmp .ne 8, 3) := by decide +kernel
theorem jd_La_bestStart_22 : decode jb_La_bestStart 22 = .ok (.iload 4, 2) := by decide +kernel
theorem jd_La_bestStart_24 : decode jb_La_bestStart 24 = .ok (.goto 7, 3) := by decide +kernel
theorem jd_La_bestStart_27 : decode jb_La_bestStart 27 = .ok (.iload 4, 2) := by decide +kernel
theorem jd_La_bestStart_29 : decode jb_La_bestStart 29 = .ok (.iconst 1, 1) := by decide +kernel
theorem jd_La_bestStart_30 : decode jb_La_bestStart 30 = .ok (.iadd, 1) := by decide +kernel
theorem jd_La_bestStart_31 : decode jb_La_bestStart 31 = .ok (.istore 5, 2) := by decide +kernel
theorem jd_La_bestStart_33 : decode jb_La_bestStart 33 = .ok (.iload_n 1, 1) := by decide +kernel
theorem jd_La_bestStart_34 : decode jb_La_bestStart 34 = .ok (.iconst 1, 1) := by decide +kernel
theorem jd_La_bestStart_35 : decode jb_La_bestStart 35 = .ok (.if_icmp .ne 10, 3) := by decide +kernel
theorem jd_La_bestStart_38 : decode jb_La_bestStart 38 = .ok (.iload 4, 2) := by decide +kernel
theorem jd_La_bestStart_40 : decode jb_La_bestStart 40 = .ok (.iconst 1, 1) := by decide +kernel
theorem jd_La_bestStart_41 : decode jb_La_bestStart 41 = .ok (.iadd, 1) := by decide +kernel
theorem jd_La_bestStart_42 : decode jb_La_bestStart 42 = .ok (.goto 7, 3) := by decide +kernel
theorem jd_La_bestStart_45 : decode jb_La_bestStart 45 = .ok (.aload_n 0, 1) := by decide +kernel
theorem jd_La_bestStart_46 : decode jb_La_bestStart 46 = .ok (.getfield 7, 3) := by decide +kernel
theorem jd_La_bestStart_49 : decode jb_La_bestStart 49 = .ok (.istore 6, 2) := by decide +kernel
theorem jd_La_bestStart_51 : decode jb_La_bestStart 51 = .ok (.iload 5, 2) := by decide +kernel
theorem jd_La_bestStart_53 : decode jb_La_bestStart 53 = .ok (.istore 7, 2) := by decide +kernel
theorem jd_La_bestStart_55 : decode jb_La_bestStart 55 = .ok (.iload 7, 2) := by decide +kernel
theorem jd_La_bestStart_57 : decode jb_La_bestStart 57 = .ok (.iload 6, 2) := by decide +kernel
theorem jd_La_bestStart_59 : decode jb_La_bestStart 59 = .ok (.if_icmp .ge 47, 3) := by decide +kernel
theorem jd_La_bestStart_62 : decode jb_La_bestStart 62 = .ok (.aload_n 0, 1) := by decide +kernel
theorem jd_La_bestStart_63 : decode jb_La_bestStart 63 = .ok (.iload 4, 2) := by decide +kernel
theorem jd_La_bestStart_65 : decode jb_La_bestStart 65 = .ok (.iload 7, 2) := by decide +kernel
theorem jd_La_bestStart_67 : decode jb_La_bestStart 67 = .ok (.invokevirtual 49, 3) := by decide +kernel
theorem jd_La_bestStart_70 : decode jb_La_bestStart 70 = .ok (.istore 8, 2) := by decide +kernel
theorem jd_La_bestStart_72 : decode jb_La_bestStart 72 = .ok (.iload 8, 2) := by decide +kernel
theorem jd_La_bestStart_74 : decode jb_La_bestStart 74 = .ok (.iload_n 3, 1) := by decide +kernel
theorem jd_La_bestStart_75 : decode jb_La_bestStart 75 = .ok (.if_icmp .ge 25, 3) := by decide +kernel
theorem jd_La_bestStart_78 : decode jb_La_bestStart 78 = .ok (.iload 8, 2) := by decide +kernel
theorem jd_La_bestStart_80 : decode jb_La_bestStart 80 = .ok (.istore_n 3, 1) := by decide +kernel
theorem jd_La_bestStart_81 : decode jb_La_bestStart 81 = .ok (.bipush 100, 2) := by decide +kernel
theorem jd_La_bestStart_83 : decode jb_La_bestStart 83 = .ok (.iload 4, 2) := by decide +kernel
theorem jd_La_bestStart_85 : decode jb_La_bestStart 85 = .ok (.imul, 1) := by decide +kernel
theorem jd_La_bestStart_86 : decode jb_La_bestStart 86 = .ok (.iload_n 1, 1) := by decide +kernel
theorem jd_La_bestStart_87 : decode jb_La_bestStart 87 = .ok (.iconst 1, 1) := by decide +kernel
theorem jd_La_bestStart_88 : decode jb_La_bestStart 88 = .ok (.if_icmp .ne 8, 3) := by decide +kernel
theorem jd_La_bestStart_91 : decode jb_La_bestStart 91 = .ok (.bipush 99, 2) := by decide +kernel
theorem jd_La_bestStart_93 : decode jb_La_bestStart 93 = .ok (.goto 5, 3) := by decide +kernel
theorem jd_La_bestStart_96 : decode jb_La_bestStart 96 = .ok (.iload 7, 2) := by decide +kernel
theorem jd_La_bestStart_98 : decode jb_La_bestStart 98 = .ok (.iadd, 1) := by decide +kernel
theorem jd_La_bestStart_99 : decode jb_La_bestStart 99 = .ok (.istore_n 2, 1) := by decide +kernel
theorem jd_La_bestStart_100 : decode jb_La_bestStart 100 = .ok (.iinc 7 1, 3) := by decide +kernel
theorem jd_La_bestStart_103 : decode jb_La_bestStart 103 = .ok (.goto (-48), 3) := by decide +kernel
theorem jd_La_bestStart_106 : decode jb_La_bestStart 106 = .ok (.iinc 4 1, 3) := by decide +kernel
theorem jd_La_bestStart_109 : decode jb_La_bestStart 109 = .ok (.goto (-101), 3) := by decide +kernel
theorem jd_La_bestStart_112 : decode jb_La_bestStart 112 = .ok (.iload_n 2, 1) := by decide +kernel
theorem jd_La_bestStart_113 : decode jb_La_bestStart 113 = .ok (.ireturn, 1) := by decide +kernel
def f_La_bestStart_100 (F : Nat) (kb55 : Int32 → Int32 → Int32 → Int32 → Int32 → Int32 → j_M → Option (Int32 × j_M)) (x1 : Int32) (x2 : Int32) (x3 : Int32) (x4 : Int32) (x6 : Int32) (x7 : Int32) (I : j_M) : Option (Int32 × j_M) := j_let (x7 + 1) (fun v1 => kb55 x1 x2 x3 x4 x6 v1 I)
def f_La_bestStart_98 (F : Nat) (kb55 : Int32 → Int32 → Int32 → Int32 → Int32 → Int32 → j_M → Option (Int32 × j_M)) (x1 : Int32) (x3 : Int32) (x4 : Int32) (x6 : Int32) (x7 : Int32) (s0 : Int32) (s1 : Int32) (I : j_M) : Option (Int32 × j_M) := j_let (s0 + s1) (fun v2 => f_La_bestStart_100 F kb55 x1 v2 x3 x4 x6 x7 I)
def f_La_bestStart_55b (F : Nat) (kb55 : Int32 → Int32 → Int32 → Int32 → Int32 → Int32 → j_M → Option (Int32 × j_M)) (kb8 : Int32 → Int32 → Int32 → Int32 → j_M → Option (Int32 × j_M)) (x1 : Int32) (x2 : Int32) (x3 : Int32) (x4 : Int32) (x6 : Int32) (x7 : Int32) (I : j_M) : Option (Int32 × j_M) := (if x6 ≤ x7 then j_let (x4 + 1) (fun v3 => kb8 x1 x2 x3 v3 I) else j_bd (f_La_costOf F x4 x7 I) (fun v4 I5 => (if x3 ≤ v4 then f_La_bestStart_100 F kb55 x1 x2 x3 x4 x6 x7 I5 else (if x1 = 1 then f_La_bestStart_98 F kb55 x1 v4 x4 x6 x7 (100 * x4) 99 I5 else f_La_bestStart_98 F kb55 x1 v4 x4 x6 x7 (100 * x4) x7 I5))))
def f_La_bestStart_55 (F : Nat) (kb8 : Int32 → Int32 → Int32 → Int32 → j_M → Option (Int32 × j_M)) (x1 : Int32) (x2 : Int32) (x3 : Int32) (x4 : Int32) (x6 : Int32) (x7 : Int32) (I : j_M) : Option (Int32 × j_M) := j_it (fun (again : Int32 × Int32 × Int32 × Int32 × Int32 × Int32 × j_M → Option (Int32 × j_M)) (q : Int32 × Int32 × Int32 × Int32 × Int32 × Int32 × j_M) => f_La_bestStart_55b F  (fun x1 x2 x3 x4 x6 x7 I => again (x1, x2, x3, x4, x6, x7, I)) kb8 q.1 q.2.1 q.2.2.1 q.2.2.2.1 q.2.2.2.2.1 q.2.2.2.2.2.1 q.2.2.2.2.2.2) F (x1, x2, x3, x4, x6, x7, I)
def f_La_bestStart_49 (F : Nat) (kb8 : Int32 → Int32 → Int32 → Int32 → j_M → Option (Int32 × j_M)) (x1 : Int32) (x2 : Int32) (x3 : Int32) (x4 : Int32) (x5 : Int32) (s0 : Int32) (I : j_M) : Option (Int32 × j_M) := f_La_bestStart_55 F kb8 x1 x2 x3 x4 s0 x5 I
def f_La_bestStart_31 (F : Nat) (kb8 : Int32 → Int32 → Int32 → Int32 → j_M → Option (Int32 × j_M)) (x1 : Int32) (x2 : Int32) (x3 : Int32) (x4 : Int32) (s0 : Int32) (I : j_M) : Option (Int32 × j_M) := (if x1 = 1 then f_La_bestStart_49 F kb8 x1 x2 x3 x4 s0 (x4 + 1) I else f_La_bestStart_49 F kb8 x1 x2 x3 x4 s0 (I 150 0) I)
def f_La_bestStart_8b (F : Nat) (kb8 : Int32 → Int32 → Int32 → Int32 → j_M → Option (Int32 × j_M)) (x1 : Int32) (x2 : Int32) (x3 : Int32) (x4 : Int32) (I : j_M) : Option (Int32 × j_M) := (if (I 150 0) ≤ x4 then some (x2, I) else (if x1 = 1 then f_La_bestStart_31 F kb8 x1 x2 x3 x4 x4 I else f_La_bestStart_31 F kb8 x1 x2 x3 x4 (x4 + 1) I))
def f_La_bestStart_8 (F : Nat)  (x1 : Int32) (x2 : Int32) (x3 : Int32) (x4 : Int32) (I : j_M) : Option (Int32 × j_M) := j_it (fun (again : Int32 × Int32 × Int32 × Int32 × j_M → Option (Int32 × j_M)) (q : Int32 × Int32 × Int32 × Int32 × j_M) => f_La_bestStart_8b F  (fun x1 x2 x3 x4 I => again (x1, x2, x3, x4, I))  q.1 q.2.1 q.2.2.1 q.2.2.2.1 q.2.2.2.2) F (x1, x2, x3, x4, I)
def f_La_bestStart (F : Nat) (x1 : Int32) (I : j_M) : Option (Int32 × j_M) := f_La_bestStart_8 F x1 (-1) 10000000 0 I
set_option maxRecDepth 100000 in
set_option maxHeartbeats 4000000 in
theorem k_La_bestStart_100 {p : Program} {l : Launch} {e : Env} {R : Room} {s : State} {m : MethodId} {args : Array Value} {below : List Frame} {meth : Method} {c : Code} {g : j_G} {b n : Nat} {P : j_R} {F : Nat} (hF : j_Fx 0 260 P) (hn : 260 ≤ n) (X : j_X p R s m args meth c g b 3 jb_La_bestStart 9 "PleasureGarden$Lamps" (some .int)) {kb55 : Int32 → Int32 → Int32 → Int32 → Int32 → Int32 → j_M → Option (Int32 × j_M)} (hkb55 : ∀ (x1 : Int32) (x2 : Int32) (x3 : Int32) (x4 : Int32) (x6 : Int32) (x7 : Int32) (I : j_M) (r : Int32 × j_M), kb55 x1 x2 x3 x4 x6 x7 I = some r → j_W p l e R s m args below meth c 9 g b n 0 0 (j_Qi g b n P below args s r) I P 55 [some (.ref (b + 150)), some (.int x1), some (.int x2), some (.int x3), some (.int x4), none, some (.int x6), some (.int x7), none] []) {x1 : Int32} {x2 : Int32} {x3 : Int32} {x4 : Int32} {x6 : Int32} {x7 : Int32} {I : j_M} {r : Int32 × j_M}  (h : f_La_bestStart_100 F kb55 x1 x2 x3 x4 x6 x7 I = some r) : j_W p l e R s m args below meth c 9 g b n 0 0 (j_Qi g b n P below args s r) I P 100 [some (.ref (b + 150)), some (.int x1), some (.int x2), some (.int x3), some (.int x4), none, some (.int x6), some (.int x7), none] [] := by
  unfold f_La_bestStart_100 at h
  obtain ⟨v1, ev1, h⟩ := j_ex h
  refine j_iinc (v := v1) (lv' := [some (.ref (b + 150)), some (.int x1), some (.int x2), some (.int x3), some (.int x4), none, some (.int x6), some (.int v1), none]) X jd_La_bestStart_100 rfl (by rw [ev1]; rfl) (by decide) rfl ?_
  refine j_goto (tgt := 55) X jd_La_bestStart_103 rfl ?_
  exact hkb55 _ _ _ _ _ _ _ _ h
set_option maxRecDepth 100000 in
set_option maxHeartbeats 4000000 in
theorem k_La_bestStart_98 {p : Program} {l : Launch} {e : Env} {R : Room} {s : State} {m : MethodId} {args : Array Value} {below : List Frame} {meth : Method} {c : Code} {g : j_G} {b n : Nat} {P : j_R} {F : Nat} (hF : j_Fx 0 260 P) (hn : 260 ≤ n) (X : j_X p R s m args meth c g b 3 jb_La_bestStart 9 "PleasureGarden$Lamps" (some .int)) {kb55 : Int32 → Int32 → Int32 → Int32 → Int32 → Int32 → j_M → Option (Int32 × j_M)} (hkb55 : ∀ (x1 : Int32) (x2 : Int32) (x3 : Int32) (x4 : Int32) (x6 : Int32) (x7 : Int32) (I : j_M) (r : Int32 × j_M), kb55 x1 x2 x3 x4 x6 x7 I = some r → j_W p l e R s m args below meth c 9 g b n 0 0 (j_Qi g b n P below args s r) I P 55 [some (.ref (b + 150)), some (.int x1), some (.int x2), some (.int x3), some (.int x4), none, some (.int x6), some (.int x7), none] []) {x1 : Int32} {x3 : Int32} {x4 : Int32} {x6 : Int32} {x7 : Int32} {s0 : Int32} {s1 : Int32} {I : j_M} {r : Int32 × j_M}  (h : f_La_bestStart_98 F kb55 x1 x3 x4 x6 x7 s0 s1 I = some r) : j_W p l e R s m args below meth c 9 g b n 0 0 (j_Qi g b n P below args s r) I P 98 [some (.ref (b + 150)), some (.int x1), none, some (.int x3), some (.int x4), none, some (.int x6), some (.int x7), none] [.int s1, .int s0] := by
  unfold f_La_bestStart_98 at h
  refine j_iadd X jd_La_bestStart_98 ?_
  refine j_nm h (fun v2 h => ?_)
  refine j_istore_n (lv' := [some (.ref (b + 150)), some (.int x1), some (.int v2), some (.int x3), some (.int x4), none, some (.int x6), some (.int x7), none]) X jd_La_bestStart_99 rfl (by decide) rfl ?_
  exact k_La_bestStart_100 hF hn X hkb55 h
set_option maxRecDepth 100000 in
set_option maxHeartbeats 4000000 in
theorem k_La_bestStart_55b {p : Program} {l : Launch} {e : Env} {R : Room} {s : State} {m : MethodId} {args : Array Value} {below : List Frame} {meth : Method} {c : Code} {g : j_G} {b n : Nat} {P : j_R} {F : Nat} (hF : j_Fx 0 260 P) (hn : 260 ≤ n) (X : j_X p R s m args meth c g b 3 jb_La_bestStart 9 "PleasureGarden$Lamps" (some .int)) {kb55 : Int32 → Int32 → Int32 → Int32 → Int32 → Int32 → j_M → Option (Int32 × j_M)} (hkb55 : ∀ (x1 : Int32) (x2 : Int32) (x3 : Int32) (x4 : Int32) (x6 : Int32) (x7 : Int32) (I : j_M) (r : Int32 × j_M), kb55 x1 x2 x3 x4 x6 x7 I = some r → j_W p l e R s m args below meth c 9 g b n 0 0 (j_Qi g b n P below args s r) I P 55 [some (.ref (b + 150)), some (.int x1), some (.int x2), some (.int x3), some (.int x4), none, some (.int x6), some (.int x7), none] []) {kb8 : Int32 → Int32 → Int32 → Int32 → j_M → Option (Int32 × j_M)} (hkb8 : ∀ (x1 : Int32) (x2 : Int32) (x3 : Int32) (x4 : Int32) (I : j_M) (r : Int32 × j_M), kb8 x1 x2 x3 x4 I = some r → j_W p l e R s m args below meth c 9 g b n 0 0 (j_Qi g b n P below args s r) I P 8 [some (.ref (b + 150)), some (.int x1), some (.int x2), some (.int x3), some (.int x4), none, none, none, none] []) {x1 : Int32} {x2 : Int32} {x3 : Int32} {x4 : Int32} {x6 : Int32} {x7 : Int32} {I : j_M} {r : Int32 × j_M}  (h : f_La_bestStart_55b F kb55 kb8 x1 x2 x3 x4 x6 x7 I = some r) : j_W p l e R s m args below meth c 9 g b n 0 0 (j_Qi g b n P below args s r) I P 55 [some (.ref (b + 150)), some (.int x1), some (.int x2), some (.int x3), some (.int x4), none, some (.int x6), some (.int x7), none] [] := by
  unfold f_La_bestStart_55b at h
  refine j_iload X jd_La_bestStart_55 rfl ?_
  refine j_iload X jd_La_bestStart_57 rfl ?_
  refine j_icmp_ge (tgt := 106) X jd_La_bestStart_59 rfl h (fun h => ?_) (fun h => ?_)
  · obtain ⟨v3, ev3, h⟩ := j_ex h
    refine j_iinc (v := v3) (lv' := [some (.ref (b + 150)), some (.int x1), some (.int x2), some (.int x3), some (.int v3), none, some (.int x6), some (.int x7), none]) X jd_La_bestStart_106 rfl (by rw [ev3]; rfl) (by decide) rfl ?_
    refine j_goto (tgt := 8) X jd_La_bestStart_109 rfl ?_
    refine j_sub [true, true, true, true, true, false, false, false, false] (lv' := [some (.ref (b + 150)), some (.int x1), some (.int x2), some (.int x3), some (.int v3), none, none, none, none]) rfl ?_
    exact hkb8 _ _ _ _ _ _ h
  · refine j_aload_n X jd_La_bestStart_62 rfl rfl ?_
    refine j_iload X jd_La_bestStart_63 rfl ?_
    refine j_iload X jd_La_bestStart_65 rfl ?_
    refine j_callVi (As := [.int x4, .int x7]) (st := []) (c0 := 150) X h jc_La js_150 (j_lt rfl hn) ⟨jqc_La_costOf, jqi_La_costOf, jqv_La_costOf, jqn_La⟩ jlm_La_49 jh_La_costOf rfl (by decide) (by decide) (Nat.le_of_ble_eq_true rfl) ⟨Nat.zero_le _, Nat.zero_le _⟩ (fun v0 I0 h => k_La_costOf (r := (v0, I0)) hF hn h) jd_La_bestStart_67 rfl (fun v4 I5 h => ?_)
    refine j_istore (lv' := [some (.ref (b + 150)), some (.int x1), some (.int x2), some (.int x3), some (.int x4), none, some (.int x6), some (.int x7), some (.int v4)]) X jd_La_bestStart_70 (by decide) rfl ?_
    refine j_iload X jd_La_bestStart_72 rfl ?_
    refine j_iload_n X jd_La_bestStart_74 rfl rfl ?_
    refine j_icmp_ge (tgt := 100) X jd_La_bestStart_75 rfl h (fun h => ?_) (fun h => ?_)
    · refine j_sub [true, true, true, true, true, false, true, true, false] (lv' := [some (.ref (b + 150)), some (.int x1), some (.int x2), some (.int x3), some (.int x4), none, some (.int x6), some (.int x7), none]) rfl ?_
      exact k_La_bestStart_100 hF hn X hkb55 h
    · refine j_iload X jd_La_bestStart_78 rfl ?_
      refine j_istore_n (lv' := [some (.ref (b + 150)), some (.int x1), some (.int x2), some (.int v4), some (.int x4), none, some (.int x6), some (.int x7), some (.int v4)]) X jd_La_bestStart_80 rfl (by decide) rfl ?_
      refine j_bipush (v := 100) X jd_La_bestStart_81 (by decide) ?_
      refine j_iload X jd_La_bestStart_83 rfl ?_
      refine j_imul X jd_La_bestStart_85 ?_
      refine j_iload_n X jd_La_bestStart_86 rfl rfl ?_
      refine j_iconst (v := 1) X jd_La_bestStart_87 (by decide) ?_
      refine j_icmp_ne (tgt := 96) X jd_La_bestStart_88 rfl h (fun h => ?_) (fun h => ?_)
      · refine j_bipush (v := 99) X jd_La_bestStart_91 (by decide) ?_
        refine j_goto (tgt := 98) X jd_La_bestStart_93 rfl ?_
        refine j_sub [true, true, false, true, true, false, true, true, false] (lv' := [some (.ref (b + 150)), some (.int x1), none, some (.int v4), some (.int x4), none, some (.int x6), some (.int x7), none]) rfl ?_
        exact k_La_bestStart_98 hF hn X hkb55 h
      · refine j_iload X jd_La_bestStart_96 rfl ?_
        refine j_sub [true, true, false, true, true, false, true, true, false] (lv' := [some (.ref (b + 150)), some (.int x1), none, some (.int v4), some (.int x4), none, some (.int x6), some (.int x7), none]) rfl ?_
        exact k_La_bestStart_98 hF hn X hkb55 h
set_option maxRecDepth 100000 in
set_option maxHeartbeats 4000000 in
theorem k_La_bestStart_55 {p : Program} {l : Launch} {e : Env} {R : Room} {s : State} {m : MethodId} {args : Array Value} {below : List Frame} {meth : Method} {c : Code} {g : j_G} {b n : Nat} {P : j_R} {F : Nat} (hF : j_Fx 0 260 P) (hn : 260 ≤ n) (X : j_X p R s m args meth c g b 3 jb_La_bestStart 9 "PleasureGarden$Lamps" (some .int)) {kb8 : Int32 → Int32 → Int32 → Int32 → j_M → Option (Int32 × j_M)} (hkb8 : ∀ (x1 : Int32) (x2 : Int32) (x3 : Int32) (x4 : Int32) (I : j_M) (r : Int32 × j_M), kb8 x1 x2 x3 x4 I = some r → j_W p l e R s m args below meth c 9 g b n 0 0 (j_Qi g b n P below args s r) I P 8 [some (.ref (b + 150)), some (.int x1), some (.int x2), some (.int x3), some (.int x4), none, none, none, none] []) {x1 : Int32} {x2 : Int32} {x3 : Int32} {x4 : Int32} {x6 : Int32} {x7 : Int32} {I : j_M} {r : Int32 × j_M} (h : f_La_bestStart_55 F kb8 x1 x2 x3 x4 x6 x7 I = some r) : j_W p l e R s m args below meth c 9 g b n 0 0 (j_Qi g b n P below args s r) I P 55 [some (.ref (b + 150)), some (.int x1), some (.int x2), some (.int x3), some (.int x4), none, some (.int x6), some (.int x7), none] [] := by
  refine j_loop (G := fun (q : Int32 × Int32 × Int32 × Int32 × Int32 × Int32 × j_M) (r : Int32 × j_M) => j_W p l e R s m args below meth c 9 g b n 0 0 (j_Qi g b n P below args s r) q.2.2.2.2.2.2 P 55 [some (.ref (b + 150)), some (.int (q.1)), some (.int (q.2.1)), some (.int (q.2.2.1)), some (.int (q.2.2.2.1)), none, some (.int (q.2.2.2.2.1)), some (.int (q.2.2.2.2.2.1)), none] []) ?_ F (x1, x2, x3, x4, x6, x7, I) r h
  intro again hrec0 q r h
  exact k_La_bestStart_55b hF hn X (fun x1 x2 x3 x4 x6 x7 I r h => hrec0 (x1, x2, x3, x4, x6, x7, I) r h) hkb8 h
set_option maxRecDepth 100000 in
set_option maxHeartbeats 4000000 in
theorem k_La_bestStart_49 {p : Program} {l : Launch} {e : Env} {R : Room} {s : State} {m : MethodId} {args : Array Value} {below : List Frame} {meth : Method} {c : Code} {g : j_G} {b n : Nat} {P : j_R} {F : Nat} (hF : j_Fx 0 260 P) (hn : 260 ≤ n) (X : j_X p R s m args meth c g b 3 jb_La_bestStart 9 "PleasureGarden$Lamps" (some .int)) {kb8 : Int32 → Int32 → Int32 → Int32 → j_M → Option (Int32 × j_M)} (hkb8 : ∀ (x1 : Int32) (x2 : Int32) (x3 : Int32) (x4 : Int32) (I : j_M) (r : Int32 × j_M), kb8 x1 x2 x3 x4 I = some r → j_W p l e R s m args below meth c 9 g b n 0 0 (j_Qi g b n P below args s r) I P 8 [some (.ref (b + 150)), some (.int x1), some (.int x2), some (.int x3), some (.int x4), none, none, none, none] []) {x1 : Int32} {x2 : Int32} {x3 : Int32} {x4 : Int32} {x5 : Int32} {s0 : Int32} {I : j_M} {r : Int32 × j_M}  (h : f_La_bestStart_49 F kb8 x1 x2 x3 x4 x5 s0 I = some r) : j_W p l e R s m args below meth c 9 g b n 0 0 (j_Qi g b n P below args s r) I P 49 [some (.ref (b + 150)), some (.int x1), some (.int x2), some (.int x3), some (.int x4), some (.int x5), none, none, none] [.int s0] := by
  unfold f_La_bestStart_49 at h
  refine j_istore (lv' := [some (.ref (b + 150)), some (.int x1), some (.int x2), some (.int x3), some (.int x4), some (.int x5), some (.int s0), none, none]) X jd_La_bestStart_49 (by decide) rfl ?_
  refine j_iload X jd_La_bestStart_51 rfl ?_
  refine j_istore (lv' := [some (.ref (b + 150)), some (.int x1), some (.int x2), some (.int x3), some (.int x4), some (.int x5), some (.int s0), some (.int x5), none]) X jd_La_bestStart_53 (by decide) rfl ?_
  refine j_sub [true, true, true, true, true, false, true, true, false] (lv' := [some (.ref (b + 150)), some (.int x1), some (.int x2), some (.int x3), some (.int x4), none, some (.int s0), some (.int x5), none]) rfl ?_
  exact k_La_bestStart_55 hF hn X hkb8 h
set_option maxRecDepth 100000 in
set_option maxHeartbeats 4000000 in
theorem k_La_bestStart_31 {p : Program} {l : Launch} {e : Env} {R : Room} {s : State} {m : MethodId} {args : Array Value} {below : List Frame} {meth : Method} {c : Code} {g : j_G} {b n : Nat} {P : j_R} {F : Nat} (hF : j_Fx 0 260 P) (hn : 260 ≤ n) (X : j_X p R s m args meth c g b 3 jb_La_bestStart 9 "PleasureGarden$Lamps" (some .int)) {kb8 : Int32 → Int32 → Int32 → Int32 → j_M → Option (Int32 × j_M)} (hkb8 : ∀ (x1 : Int32) (x2 : Int32) (x3 : Int32) (x4 : Int32) (I : j_M) (r : Int32 × j_M), kb8 x1 x2 x3 x4 I = some r → j_W p l e R s m args below meth c 9 g b n 0 0 (j_Qi g b n P below args s r) I P 8 [some (.ref (b + 150)), some (.int x1), some (.int x2), some (.int x3), some (.int x4), none, none, none, none] []) {x1 : Int32} {x2 : Int32} {x3 : Int32} {x4 : Int32} {s0 : Int32} {I : j_M} {r : Int32 × j_M}  (h : f_La_bestStart_31 F kb8 x1 x2 x3 x4 s0 I = some r) : j_W p l e R s m args below meth c 9 g b n 0 0 (j_Qi g b n P below args s r) I P 31 [some (.ref (b + 150)), some (.int x1), some (.int x2), some (.int x3), some (.int x4), none, none, none, none] [.int s0] := by
  unfold f_La_bestStart_31 at h
  refine j_istore (lv' := [some (.ref (b + 150)), some (.int x1), some (.int x2), some (.int x3), some (.int x4), some (.int s0), none, none, none]) X jd_La_bestStart_31 (by decide) rfl ?_
  refine j_iload_n X jd_La_bestStart_33 rfl rfl ?_
  refine j_iconst (v := 1) X jd_La_bestStart_34 (by decide) ?_
  refine j_icmp_ne (tgt := 45) X jd_La_bestStart_35 rfl h (fun h => ?_) (fun h => ?_)
  · refine j_iload X jd_La_bestStart_38 rfl ?_
    refine j_iconst (v := 1) X jd_La_bestStart_40 (by decide) ?_
    refine j_iadd X jd_La_bestStart_41 ?_
    refine j_goto (tgt := 49) X jd_La_bestStart_42 rfl ?_
    exact k_La_bestStart_49 hF hn X hkb8 h
  · refine j_aload_n X jd_La_bestStart_45 rfl rfl ?_
    refine j_get X jf_La_7 jk_6_0 js_150 (j_lt rfl hn) jd_La_bestStart_46 ?_
    exact k_La_bestStart_49 hF hn X hkb8 h
set_option maxRecDepth 100000 in
set_option maxHeartbeats 4000000 in
theorem k_La_bestStart_8b {p : Program} {l : Launch} {e : Env} {R : Room} {s : State} {m : MethodId} {args : Array Value} {below : List Frame} {meth : Method} {c : Code} {g : j_G} {b n : Nat} {P : j_R} {F : Nat} (hF : j_Fx 0 260 P) (hn : 260 ≤ n) (X : j_X p R s m args meth c g b 3 jb_La_bestStart 9 "PleasureGarden$Lamps" (some .int)) {kb8 : Int32 → Int32 → Int32 → Int32 → j_M → Option (Int32 × j_M)} (hkb8 : ∀ (x1 : Int32) (x2 : Int32) (x3 : Int32) (x4 : Int32) (I : j_M) (r : Int32 × j_M), kb8 x1 x2 x3 x4 I = some r → j_W p l e R s m args below meth c 9 g b n 0 0 (j_Qi g b n P below args s r) I P 8 [some (.ref (b + 150)), some (.int x1), some (.int x2), some (.int x3), some (.int x4), none, none, none, none] []) {x1 : Int32} {x2 : Int32} {x3 : Int32} {x4 : Int32} {I : j_M} {r : Int32 × j_M}  (h : f_La_bestStart_8b F kb8 x1 x2 x3 x4 I = some r) : j_W p l e R s m args below meth c 9 g b n 0 0 (j_Qi g b n P below args s r) I P 8 [some (.ref (b + 150)), some (.int x1), some (.int x2), some (.int x3), some (.int x4), none, none, none, none] [] := by
  unfold f_La_bestStart_8b at h
  refine j_iload X jd_La_bestStart_8 rfl ?_
  refine j_aload_n X jd_La_bestStart_10 rfl rfl ?_
  refine j_get X jf_La_7 jk_6_0 js_150 (j_lt rfl hn) jd_La_bestStart_11 ?_
  refine j_icmp_ge (tgt := 112) X jd_La_bestStart_14 rfl h (fun h => ?_) (fun h => ?_)
  · refine j_iload_n X jd_La_bestStart_112 rfl rfl ?_
    exact j_iret X rfl jd_La_bestStart_113 h
  · refine j_iload_n X jd_La_bestStart_17 rfl rfl ?_
    refine j_iconst (v := 1) X jd_La_bestStart_18 (by decide) ?_
    refine j_icmp_ne (tgt := 27) X jd_La_bestStart_19 rfl h (fun h => ?_) (fun h => ?_)
    · refine j_iload X jd_La_bestStart_22 rfl ?_
      refine j_goto (tgt := 31) X jd_La_bestStart_24 rfl ?_
      exact k_La_bestStart_31 hF hn X hkb8 h
    · refine j_iload X jd_La_bestStart_27 rfl ?_
      refine j_iconst (v := 1) X jd_La_bestStart_29 (by decide) ?_
      refine j_iadd X jd_La_bestStart_30 ?_
      exact k_La_bestStart_31 hF hn X hkb8 h
set_option maxRecDepth 100000 in
set_option maxHeartbeats 4000000 in
theorem k_La_bestStart_8 {p : Program} {l : Launch} {e : Env} {R : Room} {s : State} {m : MethodId} {args : Array Value} {below : List Frame} {meth : Method} {c : Code} {g : j_G} {b n : Nat} {P : j_R} {F : Nat} (hF : j_Fx 0 260 P) (hn : 260 ≤ n) (X : j_X p R s m args meth c g b 3 jb_La_bestStart 9 "PleasureGarden$Lamps" (some .int))  {x1 : Int32} {x2 : Int32} {x3 : Int32} {x4 : Int32} {I : j_M} {r : Int32 × j_M} (h : f_La_bestStart_8 F x1 x2 x3 x4 I = some r) : j_W p l e R s m args below meth c 9 g b n 0 0 (j_Qi g b n P below args s r) I P 8 [some (.ref (b + 150)), some (.int x1), some (.int x2), some (.int x3), some (.int x4), none, none, none, none] [] := by
  refine j_loop (G := fun (q : Int32 × Int32 × Int32 × Int32 × j_M) (r : Int32 × j_M) => j_W p l e R s m args below meth c 9 g b n 0 0 (j_Qi g b n P below args s r) q.2.2.2.2 P 8 [some (.ref (b + 150)), some (.int (q.1)), some (.int (q.2.1)), some (.int (q.2.2.1)), some (.int (q.2.2.2.1)), none, none, none, none] []) ?_ F (x1, x2, x3, x4, I) r h
  intro again hrec0 q r h
  exact k_La_bestStart_8b hF hn X (fun x1 x2 x3 x4 I r h => hrec0 (x1, x2, x3, x4, I) r h)  h
set_option maxRecDepth 100000 in
set_option maxHeartbeats 4000000 in
theorem k_La_bestStart {l : Launch} {g : j_G} {b n : Nat} {P : j_R} {F : Nat} (hF : j_Fx 0 260 P) (hn : 260 ≤ n) {x1 : Int32} {I : j_M} {r : Int32 × j_M}  (h : f_La_bestStart F x1 I = some r) : j_Met l g b n P 3 jy_La_bestStart jb_La_bestStart 9 (some .int) [.ref (b + 150), .int x1] I r.2 (some (.int r.1)) := by
  unfold f_La_bestStart at h
  refine j_enter (plainFor_of_name (by decide)) (Nat.le_of_ble_eq_true rfl) [some (.ref (b + 150)), some (.int x1), none, none, none, none, none, none, none] rfl ?_
  intro p e R s m args below meth c X0 hnm hRc hRs
  have X : j_X p R s m args meth c g b 3 jb_La_bestStart 9 "PleasureGarden$Lamps" (some .int) := X0
  clear X0
  refine j_iconst (v := (-1)) X jd_La_bestStart_0 (by decide) ?_
  refine j_istore_n (lv' := [some (.ref (b + 150)), some (.int x1), some (.int (-1)), none, none, none, none, none, none]) X jd_La_bestStart_1 rfl (by decide) rfl ?_
  refine j_ldc (v := 10000000) X jlc_La_31 jd_La_bestStart_2 ?_
  refine j_istore_n (lv' := [some (.ref (b + 150)), some (.int x1), some (.int (-1)), some (.int 10000000), none, none, none, none, none]) X jd_La_bestStart_4 rfl (by decide) rfl ?_
  refine j_iconst (v := 0) X jd_La_bestStart_5 (by decide) ?_
  refine j_istore (lv' := [some (.ref (b + 150)), some (.int x1), some (.int (-1)), some (.int 10000000), some (.int 0), none, none, none, none]) X jd_La_bestStart_6 (by decide) rfl ?_
  exact k_La_bestStart_8 hF hn X h
