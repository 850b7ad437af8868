theorem jd_Gr_init_0 : decode jb_Gr_init 0 = .ok (.aload_n 0, 1) := by decide +kernel
theorem jd_Gr_init_1 : decode jb_Gr_init 1 = .ok (.invokespecial 3, 3) := by decide +kernel
theorem jd_Gr_init_4 : decode jb_Gr_init 4 = .ok (.aload_n 0, 1) := by decide +kernel
theorem jd_Gr_init_5 : decode jb_Gr_init 5 = .ok (.iconst 0, 1) := by decide +kernel
theorem jd_Gr_init_6 : decode jb_Gr_init 6 = .ok (.putfield 9, 3) := by decide +kernel
theorem jd_Gr_init_9 : decode jb_Gr_init 9 = .ok (.aload_n 0, 1) := by decide +kernel
theorem jd_Gr_init_10 : decode jb_Gr_init 10 = .ok (.bipush 16, 2) := by decide +kernel
theorem jd_Gr_init_12 : decode jb_Gr_init 12 = .ok (.newarray .int, 2) := by decide +kernel
theorem jd_Gr_init_14 : decode jb_Gr_init 14 = .ok (.putfield 15, 3) := by decide +kernel
theorem jd_Gr_init_17 : decode jb_Gr_init 17 = .ok (.aload_n 0, 1) := by decide +kernel
theorem jd_Gr_init_18 : decode jb_Gr_init 18 = .ok (.bipush 16, 2) := by decide +kernel
theorem jd_Gr_init_20 : decode jb_Gr_init 20 = .ok (.newarray .boolean, 2) := by decide +kernel
theorem jd_Gr_init_22 : decode jb_Gr_init 22 = .ok (.putfield 19, 3) := by decide +kernel
theorem jd_Gr_init_25 : decode jb_Gr_init 25 = .ok (.aload_n 0, 1) := by decide +kernel
theorem jd_Gr_init_26 : decode jb_Gr_init 26 = .ok (.bipush 16, 2) := by decide +kernel
theorem jd_Gr_init_28 : decode jb_Gr_init 28 = .ok (.bipush 16, 2) := by decide +kernel
theorem jd_Gr_init_30 : decode jb_Gr_init 30 = .ok (.multianewarray 23 2, 4) := by decide +kernel
theorem jd_Gr_init_34 : decode jb_Gr_init 34 = .ok (.putfield 25, 3) := by decide +kernel
theorem jd_Gr_init_37 : decode jb_Gr_init 37 = .ok (.aload_n 0, 1) := by decide +kernel
theorem jd_Gr_init_38 : decode jb_Gr_init 38 = .ok (.bipush 16, 2) := by decide +kernel
theorem jd_Gr_init_40 : decode jb_Gr_init 40 = .ok (.bipush 16, 2) := by decide +kernel
theorem jd_Gr_init_42 : decode jb_Gr_init 42 = .ok (.multianewarray 23 2, 4) := by decide +kernel
theorem jd_Gr_init_46 : decode jb_Gr_init 46 = .ok (.putfield 28, 3) := by decide +kernel
theorem jd_Gr_init_49 : decode jb_Gr_init 49 = .ok (.aload_n 0, 1) := by decide +kernel
theorem jd_Gr_init_50 : decode jb_Gr_init 50 = .ok (.invokevirtual 31, 3) := by decide +kernel
theorem jd_Gr_init_53 : decode jb_Gr_init 53 = .ok (.return_, 1) := by decide +kernel
theorem jhi_Gr_init : jy_Gr_init.cls ≠ "java/lang/invoke/MethodHandle" ∧ jy_Gr_init.cls ≠ "java/lang/invoke/VarHandle" ∧ (parseMethodDescriptor jy_Gr_init.desc).map (fun d => d.parameters.length) = some 0 := by decide +kernel
set_option maxRecDepth 100000 in
set_option maxHeartbeats 4000000 in
theorem K_Gr_init (l : Launch) (g : j_G) (b : Nat) : j_MetC l g b 2 jy_Gr_init jb_Gr_init 1 1 2 38 36 576 [.ref (b + 1)] := by
  refine j_enterC (plainFor_of_name (by decide)) (Nat.le_of_ble_eq_true rfl) [some (.ref (b + 1))] rfl ?_
  intro I P hBt p e R s m args below meth c X0 hO hnm hRc hRs
  have X : j_X p R s m args meth c g b 2 jb_Gr_init 1 "PleasureGarden$Grounds" none := X0
  clear X0
  have hnm : meth.name = "<init>" := hnm
  have hB0 : j_Bl 2 I P := hBt.le (by omega)
  refine j_aload_n X jd_Gr_init_0 rfl rfl ?_
  refine j_objInit (st := []) X jlm_Gr_3 (by decide) (Nat.le_of_ble_eq_true rfl) jd_Gr_init_1 ?_
  refine j_aload_n X jd_Gr_init_4 rfl rfl ?_
  refine j_iconst (v := 0) X jd_Gr_init_5 (by decide) ?_
  refine j_puti X jt_Gr jto_Gr jn_Gr jf_Gr_9 jk_1_0 js_1 (by decide) (Or.inl rfl) rfl jd_Gr_init_6 ?_
  generalize hI1 : j_wr I 1 0 0 = I1
  have hB1 : j_Bl 2 I1 P := hI1 ▸ hB0.wr (by decide)
  refine j_aload_n X jd_Gr_init_9 rfl rfl ?_
  refine j_bipush (v := 16) X jd_Gr_init_10 (by decide) ?_
  refine j_newI (N := 16) X hB1 (by decide) js_2 (by decide) (by decide) (by decide) (by rw [hRc]; decide) (by rw [hRs]; decide) jd_Gr_init_12 ?_
  have hB2 : j_Bl 3 I1 P := hB1.le (by decide)
  refine j_putr X jt_Gr jto_Gr jn_Gr jf_Gr_15 jk_1_1 js_1 (by decide) (Or.inr ⟨rfl, hnm, rfl⟩) rfl rfl rfl jd_Gr_init_14 ?_
  generalize hP3 : j_wp P 1 1 (some 2) = P3
  have hB3 : j_Bl 3 I1 P3 := hP3 ▸ hB2.wp (by decide)
  refine j_aload_n X jd_Gr_init_17 rfl rfl ?_
  refine j_bipush (v := 16) X jd_Gr_init_18 (by decide) ?_
  refine j_newZ (N := 16) X hB3 (by decide) js_3 (by decide) (by decide) (by decide) (by rw [hRc]; decide) (by rw [hRs]; decide) jd_Gr_init_20 ?_
  have hB4 : j_Bl 4 I1 P3 := hB3.le (by decide)
  refine j_putr X jt_Gr jto_Gr jn_Gr jf_Gr_19 jk_1_2 js_1 (by decide) (Or.inr ⟨rfl, hnm, rfl⟩) rfl rfl rfl jd_Gr_init_22 ?_
  generalize hP5 : j_wp P3 1 2 (some 3) = P5
  have hB5 : j_Bl 4 I1 P5 := hP5 ▸ hB4.wp (by decide)
  refine j_aload_n X jd_Gr_init_25 rfl rfl ?_
  refine j_bipush (v := 16) X jd_Gr_init_26 (by decide) ?_
  refine j_bipush (v := 16) X jd_Gr_init_28 (by decide) ?_
  refine j_mna (N := 16) (K := 16) X hO hB5 (by decide) jlk_Gr_23 js_4 (fun j hj => jsp_5 hj) (by decide) (by decide) (by decide) (by decide) (by decide) (by decide) (by decide) (by rw [hRc]; decide) (by rw [hRs]; decide) jd_Gr_init_30 ?_
  generalize hP6 : j_wq P5 4 16 = P6
  have hB6 : j_Bl 21 I1 P6 := ⟨fun c hc => hB5.1 c (by omega), fun c hc => by rw [← hP6, j_wq_cell _ _ (by omega)]; exact hB5.2 c (by omega)⟩
  refine j_putr X jt_Gr jto_Gr jn_Gr jf_Gr_25 jk_1_3 js_1 (by decide) (Or.inr ⟨rfl, hnm, rfl⟩) rfl rfl rfl jd_Gr_init_34 ?_
  generalize hP7 : j_wp P6 1 3 (some 4) = P7
  have hB7 : j_Bl 21 I1 P7 := hP7 ▸ hB6.wp (by decide)
  refine j_aload_n X jd_Gr_init_37 rfl rfl ?_
  refine j_bipush (v := 16) X jd_Gr_init_38 (by decide) ?_
  refine j_bipush (v := 16) X jd_Gr_init_40 (by decide) ?_
  refine j_mna (N := 16) (K := 16) X hO hB7 (by decide) jlk_Gr_23 js_21 (fun j hj => jsp_22 hj) (by decide) (by decide) (by decide) (by decide) (by decide) (by decide) (by decide) (by rw [hRc]; decide) (by rw [hRs]; decide) jd_Gr_init_42 ?_
  generalize hP8 : j_wq P7 21 16 = P8
  have hB8 : j_Bl 38 I1 P8 := ⟨fun c hc => hB7.1 c (by omega), fun c hc => by rw [← hP8, j_wq_cell _ _ (by omega)]; exact hB7.2 c (by omega)⟩
  refine j_putr X jt_Gr jto_Gr jn_Gr jf_Gr_28 jk_1_4 js_1 (by decide) (Or.inr ⟨rfl, hnm, rfl⟩) rfl rfl rfl jd_Gr_init_46 ?_
  generalize hP9 : j_wp P8 1 4 (some 21) = P9
  have hB9 : j_Bl 38 I1 P9 := hP9 ▸ hB8.wp (by decide)
  refine j_aload_n X jd_Gr_init_49 rfl rfl ?_
  have hF : j_Fx 1 38 P9 := by
    subst hP3 hP5 hP6 hP7 hP8 hP9
    refine ⟨fun q hq h1 h2 => ?_, fun q hq h1 h2 i hi => ?_⟩
    · have e : j_pfL.filter (fun q => decide (1 ≤ q.1 ∧ q.1 < 38)) = [(1, 1, 2), (1, 2, 3), (1, 3, 4), (1, 4, 21)] := by decide
      have hm : q ∈ [((1, 1, 2) : Nat × Nat × Nat), ((1, 2, 3) : Nat × Nat × Nat), ((1, 3, 4) : Nat × Nat × Nat), ((1, 4, 21) : Nat × Nat × Nat)] := by rw [← e]; exact List.mem_filter.mpr ⟨hq, decide_eq_true ⟨h1, h2⟩⟩
      simp only [List.mem_cons, List.not_mem_nil, or_false] at hm
      rcases hm with rfl | rfl | rfl | rfl <;> simp [j_wp, j_wq]
    · have e : j_paL.filter (fun q => decide (1 ≤ q.1 ∧ q.1 < 38)) = [(4, 5, 16), (21, 22, 16)] := by decide
      have hm : q ∈ [((4, 5, 16) : Nat × Nat × Nat), ((21, 22, 16) : Nat × Nat × Nat)] := by rw [← e]; exact List.mem_filter.mpr ⟨hq, decide_eq_true ⟨h1, h2⟩⟩
      simp only [List.mem_cons, List.not_mem_nil, or_false] at hm
      rcases hm with rfl | rfl <;> simp [j_wp, j_wq, show i < 16 from hi]
  have hz : I1 1 0 = 0 := by rw [← hI1]; exact j_wr_same _ _ _ _
  obtain ⟨v, I9, e9, hv9, hr9⟩ := p_measure_0 (F := 30) (by decide) hz
  refine j_callV (As := []) (st := []) (c0 := 1) (v := none) (I' := I9) X jc_Gr js_1 (by decide) ⟨jqc_Gr_measure, jqi_Gr_measure, jqv_Gr_measure, jqn_Gr⟩ jlm_Gr_31 jh_Gr_measure rfl (by decide) (by decide) (Nat.le_of_ble_eq_true rfl) ⟨by rw [hRc]; decide, by rw [hRs]; decide⟩ (k_Gr_measure (F := 30) (r := (v, I9)) hF (Nat.le_refl 38) e9) jd_Gr_init_50 rfl ?_
  have hne1 : ∀ c, c ≠ 1 → I1 c = I c := fun c hc => by rw [← hI1]; exact j_wr_cell _ _ _ hc
  have hx9 : ∀ c, (c < 22 ∨ 38 ≤ c) → I9 c = I1 c := fun c hc => funext fun k => hr9.1 c k (by omega)
  refine j_vretC X rfl ⟨⟨fun c hc => (hx9 c (Or.inr hc)).trans (hB9.1 c hc), hB9.2⟩, fun c hc => ⟨?_, ?_⟩, hF, fun c h1 h2 => ?_⟩ jd_Gr_init_53
  · rw [hx9 c (Or.inl (by omega))]; exact hne1 c (by omega)
  · have hne : c ≠ 1 := by omega
    have hne2 : c ≠ 4 := by omega
    have hne3 : c ≠ 21 := by omega
    subst hP3 hP5 hP6 hP7 hP8 hP9
    simp [j_wp_cell _ _ _ hne, j_wq_cell _ _ hne2, j_wq_cell _ _ hne3]
  · by_cases hw : 22 ≤ c ∧ c < 38
    · obtain ⟨a, rfl⟩ : ∃ a, c = 22 + a := ⟨c - 22, by omega⟩
      have ha : a < 16 := by omega
      funext k
      unfold jIf
      rw [if_pos hw, Nat.add_sub_cancel_left]
      by_cases hk : k < 16
      · rw [if_pos hk, hr9.2.1 a ha k hk, p_dir, hne1 (5 + a) (by omega), hBt.1 (5 + a) (by omega)]
        by_cases e : a = k
        · rw [if_pos e, if_pos e.symm]
        · rw [if_neg e, if_pos (by simp [jI0, show 5 + a ≠ 208 by omega]), if_neg (fun z => e z.symm)]
      · rw [if_neg hk, hr9.1 (22 + a) k (by omega), hne1 (22 + a) (by omega), hBt.1 (22 + a) (by omega)]
        simp [jI0, show 22 + a ≠ 208 by omega]
    · rw [hx9 c (by omega), jIf_plain (by omega)]
      by_cases e : c = 1
      · subst e
        rw [← hI1]
        funext k
        rw [j_wr_at, hBt.1 1 (by omega)]
        by_cases ek : k = 0
        · subst ek; simp [jI0]
        · simp [ek]
      · rw [hne1 c e]; exact hBt.1 c h1
theorem jd_Pr_init_0 : decode jb_Pr_init 0 = .ok (.aload_n 0, 1) := by decide +kernel
theorem jd_Pr_init_1 : decode jb_Pr_init 1 = .ok (.invokespecial 1, 3) := by decide +kernel
theorem jd_Pr_init_4 : decode jb_Pr_init 4 = .ok (.aload_n 0, 1) := by decide +kernel
theorem jd_Pr_init_5 : decode jb_Pr_init 5 = .ok (.iconst 0, 1) := by decide +kernel
theorem jd_Pr_init_6 : decode jb_Pr_init 6 = .ok (.putfield 7, 3) := by decide +kernel
theorem jd_Pr_init_9 : decode jb_Pr_init 9 = .ok (.aload_n 0, 1) := by decide +kernel
theorem jd_Pr_init_10 : decode jb_Pr_init 10 = .ok (.iconst 0, 1) := by decide +kernel
theorem jd_Pr_init_11 : decode jb_Pr_init 11 = .ok (.putfield 13, 3) := by decide +kernel
theorem jd_Pr_init_14 : decode jb_Pr_init 14 = .ok (.aload_n 0, 1) := by decide +kernel
theorem jd_Pr_init_15 : decode jb_Pr_init 15 = .ok (.sipush 3720, 3) := by decide +kernel
theorem jd_Pr_init_18 : decode jb_Pr_init 18 = .ok (.newarray .byte, 2) := by decide +kernel
theorem jd_Pr_init_20 : decode jb_Pr_init 20 = .ok (.putfield 16, 3) := by decide +kernel
theorem jd_Pr_init_23 : decode jb_Pr_init 23 = .ok (.aload_n 0, 1) := by decide +kernel
theorem jd_Pr_init_24 : decode jb_Pr_init 24 = .ok (.bipush 30, 2) := by decide +kernel
theorem jd_Pr_init_26 : decode jb_Pr_init 26 = .ok (.newarray .int, 2) := by decide +kernel
theorem jd_Pr_init_28 : decode jb_Pr_init 28 = .ok (.putfield 20, 3) := by decide +kernel
theorem jd_Pr_init_31 : decode jb_Pr_init 31 = .ok (.aload_n 0, 1) := by decide +kernel
theorem jd_Pr_init_32 : decode jb_Pr_init 32 = .ok (.bipush 30, 2) := by decide +kernel
theorem jd_Pr_init_34 : decode jb_Pr_init 34 = .ok (.newarray .int, 2) := by decide +kernel
theorem jd_Pr_init_36 : decode jb_Pr_init 36 = .ok (.putfield 24, 3) := by decide +kernel
theorem jd_Pr_init_39 : decode jb_Pr_init 39 = .ok (.aload_n 0, 1) := by decide +kernel
theorem jd_Pr_init_40 : decode jb_Pr_init 40 = .ok (.bipush 30, 2) := by decide +kernel
theorem jd_Pr_init_42 : decode jb_Pr_init 42 = .ok (.newarray .int, 2) := by decide +kernel
theorem jd_Pr_init_44 : decode jb_Pr_init 44 = .ok (.putfield 27, 3) := by decide +kernel
theorem jd_Pr_init_47 : decode jb_Pr_init 47 = .ok (.aload_n 0, 1) := by decide +kernel
theorem jd_Pr_init_48 : decode jb_Pr_init 48 = .ok (.bipush 30, 2) := by decide +kernel
theorem jd_Pr_init_50 : decode jb_Pr_init 50 = .ok (.newarray .int, 2) := by decide +kernel
theorem jd_Pr_init_52 : decode jb_Pr_init 52 = .ok (.putfield 30, 3) := by decide +kernel
theorem jd_Pr_init_55 : decode jb_Pr_init 55 = .ok (.aload_n 0, 1) := by decide +kernel
theorem jd_Pr_init_56 : decode jb_Pr_init 56 = .ok (.new 33, 3) := by decide +kernel
theorem jd_Pr_init_59 : decode jb_Pr_init 59 = .ok (.dup, 1) := by decide +kernel
theorem jd_Pr_init_60 : decode jb_Pr_init 60 = .ok (.invokespecial 35, 3) := by decide +kernel
theorem jd_Pr_init_63 : decode jb_Pr_init 63 = .ok (.putfield 36, 3) := by decide +kernel
theorem jd_Pr_init_66 : decode jb_Pr_init 66 = .ok (.return_, 1) := by decide +kernel
theorem jhi_Pr_init : jy_Pr_init.cls ≠ "java/lang/invoke/MethodHandle" ∧ jy_Pr_init.cls ≠ "java/lang/invoke/VarHandle" ∧ (parseMethodDescriptor jy_Pr_init.desc).map (fun d => d.parameters.length) = some 0 := by decide +kernel
set_option maxRecDepth 100000 in
set_option maxHeartbeats 4000000 in
theorem K_Pr_init (l : Launch) (g : j_G) (b : Nat) : j_MetC l g b 2 jy_Pr_init jb_Pr_init 1 202 203 211 8 3854 [.ref (b + 202)] := by
  refine j_enterC (plainFor_of_name (by decide)) (Nat.le_of_ble_eq_true rfl) [some (.ref (b + 202))] rfl ?_
  intro I P hBt p e R s m args below meth c X0 hO hnm hRc hRs
  have X : j_X p R s m args meth c g b 2 jb_Pr_init 1 "PleasureGarden$Prices" none := X0
  clear X0
  have hnm : meth.name = "<init>" := hnm
  have hB0 : j_Bl 203 I P := hBt.le (by omega)
  refine j_aload_n X jd_Pr_init_0 rfl rfl ?_
  refine j_objInit (st := []) X jlm_Pr_1 (by decide) (Nat.le_of_ble_eq_true rfl) jd_Pr_init_1 ?_
  refine j_aload_n X jd_Pr_init_4 rfl rfl ?_
  refine j_iconst (v := 0) X jd_Pr_init_5 (by decide) ?_
  refine j_puti X jt_Pr jto_Pr jn_Pr jf_Pr_7 jk_9_0 js_202 (by decide) (Or.inl rfl) rfl jd_Pr_init_6 ?_
  generalize hI1 : j_wr I 202 0 0 = I1
  have hB1 : j_Bl 203 I1 P := hI1 ▸ hB0.wr (by decide)
  refine j_aload_n X jd_Pr_init_9 rfl rfl ?_
  refine j_iconst (v := 0) X jd_Pr_init_10 (by decide) ?_
  refine j_puti X jt_Pr jto_Pr jn_Pr jf_Pr_13 jk_9_1 js_202 (by decide) (Or.inl rfl) rfl jd_Pr_init_11 ?_
  generalize hI2 : j_wr I1 202 1 0 = I2
  have hB2 : j_Bl 203 I2 P := hI2 ▸ hB1.wr (by decide)
  refine j_aload_n X jd_Pr_init_14 rfl rfl ?_
  refine j_sipush (v := 3720) X jd_Pr_init_15 (by decide) ?_
  refine j_newB (N := 3720) X hB2 (by decide) js_203 (by decide) (by decide) (by decide) (by rw [hRc]; decide) (by rw [hRs]; decide) jd_Pr_init_18 ?_
  have hB3 : j_Bl 204 I2 P := hB2.le (by decide)
  refine j_putr X jt_Pr jto_Pr jn_Pr jf_Pr_16 jk_9_2 js_202 (by decide) (Or.inr ⟨rfl, hnm, rfl⟩) rfl rfl rfl jd_Pr_init_20 ?_
  generalize hP4 : j_wp P 202 2 (some 203) = P4
  have hB4 : j_Bl 204 I2 P4 := hP4 ▸ hB3.wp (by decide)
  refine j_aload_n X jd_Pr_init_23 rfl rfl ?_
  refine j_bipush (v := 30) X jd_Pr_init_24 (by decide) ?_
  refine j_newI (N := 30) X hB4 (by decide) js_204 (by decide) (by decide) (by decide) (by rw [hRc]; decide) (by rw [hRs]; decide) jd_Pr_init_26 ?_
  have hB5 : j_Bl 205 I2 P4 := hB4.le (by decide)
  refine j_putr X jt_Pr jto_Pr jn_Pr jf_Pr_20 jk_9_3 js_202 (by decide) (Or.inr ⟨rfl, hnm, rfl⟩) rfl rfl rfl jd_Pr_init_28 ?_
  generalize hP6 : j_wp P4 202 3 (some 204) = P6
  have hB6 : j_Bl 205 I2 P6 := hP6 ▸ hB5.wp (by decide)
  refine j_aload_n X jd_Pr_init_31 rfl rfl ?_
  refine j_bipush (v := 30) X jd_Pr_init_32 (by decide) ?_
  refine j_newI (N := 30) X hB6 (by decide) js_205 (by decide) (by decide) (by decide) (by rw [hRc]; decide) (by rw [hRs]; decide) jd_Pr_init_34 ?_
  have hB7 : j_Bl 206 I2 P6 := hB6.le (by decide)
  refine j_putr X jt_Pr jto_Pr jn_Pr jf_Pr_24 jk_9_4 js_202 (by decide) (Or.inr ⟨rfl, hnm, rfl⟩) rfl rfl rfl jd_Pr_init_36 ?_
  generalize hP8 : j_wp P6 202 4 (some 205) = P8
  have hB8 : j_Bl 206 I2 P8 := hP8 ▸ hB7.wp (by decide)
  refine j_aload_n X jd_Pr_init_39 rfl rfl ?_
  refine j_bipush (v := 30) X jd_Pr_init_40 (by decide) ?_
  refine j_newI (N := 30) X hB8 (by decide) js_206 (by decide) (by decide) (by decide) (by rw [hRc]; decide) (by rw [hRs]; decide) jd_Pr_init_42 ?_
  have hB9 : j_Bl 207 I2 P8 := hB8.le (by decide)
  refine j_putr X jt_Pr jto_Pr jn_Pr jf_Pr_27 jk_9_5 js_202 (by decide) (Or.inr ⟨rfl, hnm, rfl⟩) rfl rfl rfl jd_Pr_init_44 ?_
  generalize hP10 : j_wp P8 202 5 (some 206) = P10
  have hB10 : j_Bl 207 I2 P10 := hP10 ▸ hB9.wp (by decide)
  refine j_aload_n X jd_Pr_init_47 rfl rfl ?_
  refine j_bipush (v := 30) X jd_Pr_init_48 (by decide) ?_
  refine j_newI (N := 30) X hB10 (by decide) js_207 (by decide) (by decide) (by decide) (by rw [hRc]; decide) (by rw [hRs]; decide) jd_Pr_init_50 ?_
  have hB11 : j_Bl 208 I2 P10 := hB10.le (by decide)
  refine j_putr X jt_Pr jto_Pr jn_Pr jf_Pr_30 jk_9_6 js_202 (by decide) (Or.inr ⟨rfl, hnm, rfl⟩) rfl rfl rfl jd_Pr_init_52 ?_
  generalize hP12 : j_wp P10 202 6 (some 207) = P12
  have hB12 : j_Bl 208 I2 P12 := hP12 ▸ hB11.wp (by decide)
  refine j_aload_n X jd_Pr_init_55 rfl rfl ?_
  refine j_new X hB12 jt_Re jto_Re ji_Re jc_Re js_208 jlk_Pr_33 jqk_Re jqn_Re (by decide) (by rw [hRc]; decide) (by rw [hRs]; decide) jd_Pr_init_56 ?_
  refine j_dup X jd_Pr_init_59 rfl ?_
  refine j_callIN (As := []) (st := [.ref (b + 208), .ref (b + 202)]) (c0 := 208) (t := 208) X hO hB12 ⟨jqc_Re_init, jqi_Re_init, jqn_Re⟩ (by decide +kernel) rfl jhi_Re_init rfl (by decide) (by decide) (Nat.le_of_ble_eq_true rfl) ⟨by rw [hRc]; decide, by rw [hRs]; decide⟩ (K_Re_init l g b) jd_Pr_init_60 rfl (fun I13 P13 hcf13 => ?_)
  have hB13 : j_Bl 211 I13 P13 := hcf13.1
  refine j_putr X jt_Pr jto_Pr jn_Pr jf_Pr_36 jk_9_7 js_202 (by decide) (Or.inr ⟨rfl, hnm, rfl⟩) rfl rfl rfl jd_Pr_init_63 ?_
  generalize hP14 : j_wp P13 202 7 (some 208) = P14
  have hB14 : j_Bl 211 I13 P14 := hP14 ▸ hB13.wp (by decide)
  have hfa : ∀ c, c < 208 → I13 c = I2 c ∧ P13 c = P12 c := fun c hc => hcf13.2.1 c hc
  have hPl : ∀ c, c ≠ 202 → P14 c = P13 c := fun c hc => by rw [← hP14]; exact j_wp_cell _ _ _ hc
  have hPa : ∀ c, c ≠ 202 → P12 c = P c := fun c hc => by
    subst hI1 hI2 hP4 hP6 hP8 hP10 hP12
    simp [j_wp_cell _ _ _ hc]
  have hIa : ∀ c, c ≠ 202 → I2 c = I c := fun c hc => by
    subst hI1 hI2 hP4 hP6 hP8 hP10 hP12
    simp [j_wr_cell _ _ _ hc]
  refine j_vretC X rfl ⟨hB14, fun c hc => ⟨((hfa c (by omega)).1).trans (hIa c (by omega)), (hPl c (by omega)).trans (((hfa c (by omega)).2).trans (hPa c (by omega)))⟩, j_Fx.join (mi := 208) ?_ (hcf13.2.2.1.keep (fun c h1 h2 => hPl c (by omega))), fun c h1 h2 => ?_⟩ jd_Pr_init_66
  · have h202 := (hfa 202 (by omega)).2
    rw [← hP14]
    subst hI1 hI2 hP4 hP6 hP8 hP10 hP12
    refine ⟨fun q hq h1 h2 => ?_, fun q hq h1 h2 i hi => ?_⟩
    · have e : j_pfL.filter (fun q => decide (202 ≤ q.1 ∧ q.1 < 208)) = [(202, 2, 203), (202, 3, 204), (202, 4, 205), (202, 5, 206), (202, 6, 207), (202, 7, 208)] := by decide
      have hm : q ∈ [((202, 2, 203) : Nat × Nat × Nat), ((202, 3, 204) : Nat × Nat × Nat), ((202, 4, 205) : Nat × Nat × Nat), ((202, 5, 206) : Nat × Nat × Nat), ((202, 6, 207) : Nat × Nat × Nat), ((202, 7, 208) : Nat × Nat × Nat)] := by rw [← e]; exact List.mem_filter.mpr ⟨hq, decide_eq_true ⟨h1, h2⟩⟩
      simp only [List.mem_cons, List.not_mem_nil, or_false] at hm
      rcases hm with rfl | rfl | rfl | rfl | rfl | rfl <;> simp [j_wp, h202]
    · have e : j_paL.filter (fun q => decide (202 ≤ q.1 ∧ q.1 < 208)) = [] := by decide
      have hm : q ∈ ([] : List (Nat × Nat × Nat)) := by rw [← e]; exact List.mem_filter.mpr ⟨hq, decide_eq_true ⟨h1, h2⟩⟩
      cases hm
  · by_cases h8 : 208 ≤ c
    · exact hcf13.2.2.2 c h8 h2
    · rw [(hfa c (by omega)).1, jIf_plain (by omega)]
      by_cases e : c = 202
      · subst e
        have h0 := hBt.1 202 (by omega)
        subst hI1 hI2 hP4 hP6 hP8 hP10 hP12
        funext k
        simp only [j_wr, true_and, h0]
        simp [jI0]
      · rw [hIa c e]; exact hBt.1 c h1
