theorem jd_Sk_init_0 : decode jb_Sk_init 0 = .ok (.aload_n 0, 1) := by decide +kernel
theorem jd_Sk_init_1 : decode jb_Sk_init 1 = .ok (.invokespecial 3, 3) := by decide +kernel
theorem jd_Sk_init_4 : decode jb_Sk_init 4 = .ok (.aload_n 0, 1) := by decide +kernel
theorem jd_Sk_init_5 : decode jb_Sk_init 5 = .ok (.iconst 0, 1) := by decide +kernel
theorem jd_Sk_init_6 : decode jb_Sk_init 6 = .ok (.putfield 9, 3) := by decide +kernel
theorem jd_Sk_init_9 : decode jb_Sk_init 9 = .ok (.aload_n 0, 1) := by decide +kernel
theorem jd_Sk_init_10 : decode jb_Sk_init 10 = .ok (.sipush 480, 3) := by decide +kernel
theorem jd_Sk_init_13 : decode jb_Sk_init 13 = .ok (.newarray .boolean, 2) := by decide +kernel
theorem jd_Sk_init_15 : decode jb_Sk_init 15 = .ok (.putfield 15, 3) := by decide +kernel
theorem jd_Sk_init_18 : decode jb_Sk_init 18 = .ok (.return_, 1) := by decide +kernel
theorem jhi_Sk_init : jy_Sk_init.cls ≠ "java/lang/invoke/MethodHandle" ∧ jy_Sk_init.cls ≠ "java/lang/invoke/VarHandle" ∧ (parseMethodDescriptor jy_Sk_init.desc).map (fun d => d.parameters.length) = some 0 := by decide +kernel
set_option maxRecDepth 100000 in
set_option maxHeartbeats 4000000 in
theorem K_Sk_init (l : Launch) (g : j_G) (b : Nat) : j_MetC l g b 1 jy_Sk_init jb_Sk_init 1 38 39 40 1 480 [.ref (b + 38)] := by
  refine j_enterC (plainFor_of_name (by decide)) (Nat.le_of_ble_eq_true rfl) [some (.ref (b + 38))] rfl ?_
  intro I P hBt p e R s m args below meth c X0 hO hnm hRc hRs
  have X : j_X p R s m args meth c g b 1 jb_Sk_init 1 "PleasureGarden$Sky" none := X0
  clear X0
  have hnm : meth.name = "<init>" := hnm
  have hB0 : j_Bl 39 I P := hBt.le (by omega)
  refine j_aload_n X jd_Sk_init_0 rfl rfl ?_
  refine j_objInit (st := []) X jlm_Sk_3 (by decide) (Nat.le_of_ble_eq_true rfl) jd_Sk_init_1 ?_
  refine j_aload_n X jd_Sk_init_4 rfl rfl ?_
  refine j_iconst (v := 0) X jd_Sk_init_5 (by decide) ?_
  refine j_puti X jt_Sk jto_Sk jn_Sk jf_Sk_9 jk_2_0 js_38 (by decide) (Or.inl rfl) rfl jd_Sk_init_6 ?_
  generalize hI1 : j_wr I 38 0 0 = I1
  have hB1 : j_Bl 39 I1 P := hI1 ▸ hB0.wr (by decide)
  refine j_aload_n X jd_Sk_init_9 rfl rfl ?_
  refine j_sipush (v := 480) X jd_Sk_init_10 (by decide) ?_
  refine j_newZ (N := 480) X hB1 (by decide) js_39 (by decide) (by decide) (by decide) (by rw [hRc]; decide) (by rw [hRs]; decide) jd_Sk_init_13 ?_
  have hB2 : j_Bl 40 I1 P := hB1.le (by decide)
  refine j_putr X jt_Sk jto_Sk jn_Sk jf_Sk_15 jk_2_1 js_38 (by decide) (Or.inr ⟨rfl, hnm, rfl⟩) rfl rfl rfl jd_Sk_init_15 ?_
  generalize hP3 : j_wp P 38 1 (some 39) = P3
  have hB3 : j_Bl 40 I1 P3 := hP3 ▸ hB2.wp (by decide)
  refine j_vretC X rfl ⟨hB3, fun c hc => ?_, ?_, fun c h1 h2 => ?_⟩ jd_Sk_init_18
  · have hne : c ≠ 38 := by omega
    subst hI1 hP3
    exact ⟨by simp [j_wr_cell _ _ _ hne], by simp [j_wp_cell _ _ _ hne]⟩
  · subst hI1 hP3
    refine ⟨fun q hq h1 h2 => ?_, fun q hq h1 h2 i hi => ?_⟩
    · have e : j_pfL.filter (fun q => decide (38 ≤ q.1 ∧ q.1 < 40)) = [(38, 1, 39)] := by decide
      have hm : q ∈ [((38, 1, 39) : Nat × Nat × Nat)] := by rw [← e]; exact List.mem_filter.mpr ⟨hq, decide_eq_true ⟨h1, h2⟩⟩
      simp only [List.mem_cons, List.not_mem_nil, or_false] at hm
      rcases hm with rfl; simp [j_wp, j_wq]
    · have e : j_paL.filter (fun q => decide (38 ≤ q.1 ∧ q.1 < 40)) = [] := by decide
      have hm : q ∈ ([] : List (Nat × Nat × Nat)) := by rw [← e]; exact List.mem_filter.mpr ⟨hq, decide_eq_true ⟨h1, h2⟩⟩
      cases hm
  · by_cases hc : c = 38
    · have h0 := hBt.1 38 (Nat.le_refl _)
      subst hc
      subst hI1 hP3
      funext k
      simp only [j_wr, true_and, h0]
      simp [jIf, jI0]
      try (repeat' split)
      all_goals (first | rfl | omega | simp_all)
    · subst hI1 hP3
      refine Eq.trans ?_ ((hBt.1 c h1).trans (jIf_plain (by omega)).symm)
      simp [j_wr_cell _ _ _ hc]
theorem jd_Pa_init_0 : decode jb_Pa_init 0 = .ok (.aload_n 0, 1) := by decide +kernel
theorem jd_Pa_init_1 : decode jb_Pa_init 1 = .ok (.invokespecial 3, 3) := by decide +kernel
theorem jd_Pa_init_4 : decode jb_Pa_init 4 = .ok (.aload_n 0, 1) := by decide +kernel
theorem jd_Pa_init_5 : decode jb_Pa_init 5 = .ok (.iconst 0, 1) := by decide +kernel
theorem jd_Pa_init_6 : decode jb_Pa_init 6 = .ok (.putfield 9, 3) := by decide +kernel
theorem jd_Pa_init_9 : decode jb_Pa_init 9 = .ok (.aload_n 0, 1) := by decide +kernel
theorem jd_Pa_init_10 : decode jb_Pa_init 10 = .ok (.iconst 0, 1) := by decide +kernel
theorem jd_Pa_init_11 : decode jb_Pa_init 11 = .ok (.putfield 15, 3) := by decide +kernel
theorem jd_Pa_init_14 : decode jb_Pa_init 14 = .ok (.aload_n 0, 1) := by decide +kernel
theorem jd_Pa_init_15 : decode jb_Pa_init 15 = .ok (.iconst 2, 1) := by decide +kernel
theorem jd_Pa_init_16 : decode jb_Pa_init 16 = .ok (.putfield 18, 3) := by decide +kernel
theorem jd_Pa_init_19 : decode jb_Pa_init 19 = .ok (.aload_n 0, 1) := by decide +kernel
theorem jd_Pa_init_20 : decode jb_Pa_init 20 = .ok (.iconst (-1), 1) := by decide +kernel
theorem jd_Pa_init_21 : decode jb_Pa_init 21 = .ok (.putfield 21, 3) := by decide +kernel
theorem jd_Pa_init_24 : decode jb_Pa_init 24 = .ok (.aload_n 0, 1) := by decide +kernel
theorem jd_Pa_init_25 : decode jb_Pa_init 25 = .ok (.iconst (-1), 1) := by decide +kernel
theorem jd_Pa_init_26 : decode jb_Pa_init 26 = .ok (.putfield 24, 3) := by decide +kernel
theorem jd_Pa_init_29 : decode jb_Pa_init 29 = .ok (.aload_n 0, 1) := by decide +kernel
theorem jd_Pa_init_30 : decode jb_Pa_init 30 = .ok (.iconst (-1), 1) := by decide +kernel
theorem jd_Pa_init_31 : decode jb_Pa_init 31 = .ok (.putfield 29, 3) := by decide +kernel
theorem jd_Pa_init_34 : decode jb_Pa_init 34 = .ok (.aload_n 0, 1) := by decide +kernel
theorem jd_Pa_init_35 : decode jb_Pa_init 35 = .ok (.iconst 0, 1) := by decide +kernel
theorem jd_Pa_init_36 : decode jb_Pa_init 36 = .ok (.putfield 32, 3) := by decide +kernel
theorem jd_Pa_init_39 : decode jb_Pa_init 39 = .ok (.aload_n 0, 1) := by decide +kernel
theorem jd_Pa_init_40 : decode jb_Pa_init 40 = .ok (.iconst 0, 1) := by decide +kernel
theorem jd_Pa_init_41 : decode jb_Pa_init 41 = .ok (.putfield 35, 3) := by decide +kernel
theorem jd_Pa_init_44 : decode jb_Pa_init 44 = .ok (.aload_n 0, 1) := by decide +kernel
theorem jd_Pa_init_45 : decode jb_Pa_init 45 = .ok (.iconst 0, 1) := by decide +kernel
theorem jd_Pa_init_46 : decode jb_Pa_init 46 = .ok (.putfield 38, 3) := by decide +kernel
theorem jd_Pa_init_49 : decode jb_Pa_init 49 = .ok (.aload_n 0, 1) := by decide +kernel
theorem jd_Pa_init_50 : decode jb_Pa_init 50 = .ok (.iconst 0, 1) := by decide +kernel
theorem jd_Pa_init_51 : decode jb_Pa_init 51 = .ok (.putfield 41, 3) := by decide +kernel
theorem jd_Pa_init_54 : decode jb_Pa_init 54 = .ok (.aload_n 0, 1) := by decide +kernel
theorem jd_Pa_init_55 : decode jb_Pa_init 55 = .ok (.iconst (-1), 1) := by decide +kernel
theorem jd_Pa_init_56 : decode jb_Pa_init 56 = .ok (.putfield 46, 3) := by decide +kernel
theorem jd_Pa_init_59 : decode jb_Pa_init 59 = .ok (.aload_n 0, 1) := by decide +kernel
theorem jd_Pa_init_60 : decode jb_Pa_init 60 = .ok (.iload_n 1, 1) := by decide +kernel
theorem jd_Pa_init_61 : decode jb_Pa_init 61 = .ok (.putfield 49, 3) := by decide +kernel
theorem jd_Pa_init_64 : decode jb_Pa_init 64 = .ok (.return_, 1) := by decide +kernel
theorem jhi_Pa_init : jy_Pa_init.cls ≠ "java/lang/invoke/MethodHandle" ∧ jy_Pa_init.cls ≠ "java/lang/invoke/VarHandle" ∧ (parseMethodDescriptor jy_Pa_init.desc).map (fun d => d.parameters.length) = some 1 := by decide +kernel
set_option maxRecDepth 100000 in
set_option maxHeartbeats 4000000 in
theorem K_Pa_init (l : Launch) (g : j_G) (b : Nat) {q : Nat} (hq : q < 100) : j_MetC l g b 1 jy_Pa_init jb_Pa_init 2 (43 + q) (43 + q + 1) (43 + q + 1) 0 0 [.ref (b + (43 + q)), .int (nI q)] := by
  refine j_enterC (plainFor_of_name (by decide)) (Nat.le_of_ble_eq_true rfl) [some (.ref (b + (43 + q))), some (.int (nI q))] rfl ?_
  intro I P hBt p e R s m args below meth c X0 hO hnm hRc hRs
  have X : j_X p R s m args meth c g b 1 jb_Pa_init 2 "PleasureGarden$Party" none := X0
  clear X0
  have hnm : meth.name = "<init>" := hnm
  have hB0 : j_Bl (43 + q + 1) I P := hBt.le (by omega)
  refine j_aload_n X jd_Pa_init_0 rfl rfl ?_
  refine j_objInit (st := []) X jlm_Pa_3 (by decide) (Nat.le_of_ble_eq_true rfl) jd_Pa_init_1 ?_
  refine j_aload_n X jd_Pa_init_4 rfl rfl ?_
  refine j_iconst (v := 0) X jd_Pa_init_5 (by decide) ?_
  refine j_puti X jt_Pa jto_Pa jn_Pa jf_Pa_9 jk_4_1 (jsp_43 hq) (by omega) (Or.inl rfl) rfl jd_Pa_init_6 ?_
  generalize hI1 : j_wr I (43 + q) 1 0 = I1
  have hB1 : j_Bl (43 + q + 1) I1 P := hI1 ▸ hB0.wr (by omega)
  refine j_aload_n X jd_Pa_init_9 rfl rfl ?_
  refine j_iconst (v := 0) X jd_Pa_init_10 (by decide) ?_
  refine j_puti X jt_Pa jto_Pa jn_Pa jf_Pa_15 jk_4_2 (jsp_43 hq) (by omega) (Or.inl rfl) rfl jd_Pa_init_11 ?_
  generalize hI2 : j_wr I1 (43 + q) 2 0 = I2
  have hB2 : j_Bl (43 + q + 1) I2 P := hI2 ▸ hB1.wr (by omega)
  refine j_aload_n X jd_Pa_init_14 rfl rfl ?_
  refine j_iconst (v := 2) X jd_Pa_init_15 (by decide) ?_
  refine j_puti X jt_Pa jto_Pa jn_Pa jf_Pa_18 jk_4_3 (jsp_43 hq) (by omega) (Or.inl rfl) rfl jd_Pa_init_16 ?_
  generalize hI3 : j_wr I2 (43 + q) 3 2 = I3
  have hB3 : j_Bl (43 + q + 1) I3 P := hI3 ▸ hB2.wr (by omega)
  refine j_aload_n X jd_Pa_init_19 rfl rfl ?_
  refine j_iconst (v := (-1)) X jd_Pa_init_20 (by decide) ?_
  refine j_puti X jt_Pa jto_Pa jn_Pa jf_Pa_21 jk_4_4 (jsp_43 hq) (by omega) (Or.inl rfl) rfl jd_Pa_init_21 ?_
  generalize hI4 : j_wr I3 (43 + q) 4 (-1) = I4
  have hB4 : j_Bl (43 + q + 1) I4 P := hI4 ▸ hB3.wr (by omega)
  refine j_aload_n X jd_Pa_init_24 rfl rfl ?_
  refine j_iconst (v := (-1)) X jd_Pa_init_25 (by decide) ?_
  refine j_puti X jt_Pa jto_Pa jn_Pa jf_Pa_24 jk_4_5 (jsp_43 hq) (by omega) (Or.inl rfl) rfl jd_Pa_init_26 ?_
  generalize hI5 : j_wr I4 (43 + q) 5 (-1) = I5
  have hB5 : j_Bl (43 + q + 1) I5 P := hI5 ▸ hB4.wr (by omega)
  refine j_aload_n X jd_Pa_init_29 rfl rfl ?_
  refine j_iconst (v := (-1)) X jd_Pa_init_30 (by decide) ?_
  refine j_puti X jt_Pa jto_Pa jn_Pa jf_Pa_29 jk_4_6 (jsp_43 hq) (by omega) (Or.inl rfl) rfl jd_Pa_init_31 ?_
  generalize hI6 : j_wr I5 (43 + q) 6 (-1) = I6
  have hB6 : j_Bl (43 + q + 1) I6 P := hI6 ▸ hB5.wr (by omega)
  refine j_aload_n X jd_Pa_init_34 rfl rfl ?_
  refine j_iconst (v := 0) X jd_Pa_init_35 (by decide) ?_
  refine j_puti X jt_Pa jto_Pa jn_Pa jf_Pa_32 jk_4_7 (jsp_43 hq) (by omega) (Or.inl rfl) rfl jd_Pa_init_36 ?_
  generalize hI7 : j_wr I6 (43 + q) 7 0 = I7
  have hB7 : j_Bl (43 + q + 1) I7 P := hI7 ▸ hB6.wr (by omega)
  refine j_aload_n X jd_Pa_init_39 rfl rfl ?_
  refine j_iconst (v := 0) X jd_Pa_init_40 (by decide) ?_
  refine j_puti X jt_Pa jto_Pa jn_Pa jf_Pa_35 jk_4_8 (jsp_43 hq) (by omega) (Or.inl rfl) rfl jd_Pa_init_41 ?_
  generalize hI8 : j_wr I7 (43 + q) 8 0 = I8
  have hB8 : j_Bl (43 + q + 1) I8 P := hI8 ▸ hB7.wr (by omega)
  refine j_aload_n X jd_Pa_init_44 rfl rfl ?_
  refine j_iconst (v := 0) X jd_Pa_init_45 (by decide) ?_
  refine j_puti X jt_Pa jto_Pa jn_Pa jf_Pa_38 jk_4_9 (jsp_43 hq) (by omega) (Or.inl rfl) rfl jd_Pa_init_46 ?_
  generalize hI9 : j_wr I8 (43 + q) 9 0 = I9
  have hB9 : j_Bl (43 + q + 1) I9 P := hI9 ▸ hB8.wr (by omega)
  refine j_aload_n X jd_Pa_init_49 rfl rfl ?_
  refine j_iconst (v := 0) X jd_Pa_init_50 (by decide) ?_
  refine j_puti X jt_Pa jto_Pa jn_Pa jf_Pa_41 jk_4_10 (jsp_43 hq) (by omega) (Or.inl rfl) rfl jd_Pa_init_51 ?_
  generalize hI10 : j_wr I9 (43 + q) 10 0 = I10
  have hB10 : j_Bl (43 + q + 1) I10 P := hI10 ▸ hB9.wr (by omega)
  refine j_aload_n X jd_Pa_init_54 rfl rfl ?_
  refine j_iconst (v := (-1)) X jd_Pa_init_55 (by decide) ?_
  refine j_puti X jt_Pa jto_Pa jn_Pa jf_Pa_46 jk_4_11 (jsp_43 hq) (by omega) (Or.inl rfl) rfl jd_Pa_init_56 ?_
  generalize hI11 : j_wr I10 (43 + q) 11 (-1) = I11
  have hB11 : j_Bl (43 + q + 1) I11 P := hI11 ▸ hB10.wr (by omega)
  refine j_aload_n X jd_Pa_init_59 rfl rfl ?_
  refine j_iload_n X jd_Pa_init_60 rfl rfl ?_
  refine j_puti X jt_Pa jto_Pa jn_Pa jf_Pa_49 jk_4_0 (jsp_43 hq) (by omega) (Or.inr ⟨rfl, hnm, rfl⟩) rfl jd_Pa_init_61 ?_
  generalize hI12 : j_wr I11 (43 + q) 0 (nI q) = I12
  have hB12 : j_Bl (43 + q + 1) I12 P := hI12 ▸ hB11.wr (by omega)
  refine j_vretC X rfl ⟨hB12, fun c hc => ?_, ?_, fun c h1 h2 => ?_⟩ jd_Pa_init_64
  · have hne : c ≠ (43 + q) := by omega
    subst hI1 hI2 hI3 hI4 hI5 hI6 hI7 hI8 hI9 hI10 hI11 hI12
    exact ⟨by simp [j_wr_cell _ _ _ hne], by simp [j_wp_cell _ _ _ hne]⟩
  · exact ⟨fun z hz h1 h2 => absurd hz (fun hz => by
      have e := List.all_eq_true.mp (show j_pfL.all (fun z => decide (z.1 < 43 ∨ 143 ≤ z.1)) = true by decide) z hz
      have := of_decide_eq_true e
      omega), fun z hz h1 h2 => absurd hz (fun hz => by
      have e := List.all_eq_true.mp (show j_paL.all (fun z => decide (z.1 < 43 ∨ 143 ≤ z.1)) = true by decide) z hz
      have := of_decide_eq_true e
      omega)⟩
  · by_cases hc : c = (43 + q)
    · have h0 := hBt.1 (43 + q) (Nat.le_refl _)
      subst hc
      subst hI1 hI2 hI3 hI4 hI5 hI6 hI7 hI8 hI9 hI10 hI11 hI12
      funext k
      have hz : jI0 (43 + q) k = 0 := by simp [jI0, show 43 + q ≠ 208 by omega]
      simp only [j_wr, true_and, h0, hz, jIf, if_neg (show ¬ (22 ≤ 43 + q ∧ 43 + q < 38) by omega), if_pos (show 43 ≤ 43 + q ∧ 43 + q < 143 by omega), Nat.add_sub_cancel_left]
      repeat' split
      all_goals (first | rfl | omega | simp_all)
    · exact absurd h2 (by omega)
theorem jd_Wa_init_0 : decode jb_Wa_init 0 = .ok (.aload_n 0, 1) := by decide +kernel
theorem jd_Wa_init_1 : decode jb_Wa_init 1 = .ok (.invokespecial 3, 3) := by decide +kernel
theorem jd_Wa_init_4 : decode jb_Wa_init 4 = .ok (.aload_n 0, 1) := by decide +kernel
theorem jd_Wa_init_5 : decode jb_Wa_init 5 = .ok (.iconst 0, 1) := by decide +kernel
theorem jd_Wa_init_6 : decode jb_Wa_init 6 = .ok (.putfield 9, 3) := by decide +kernel
theorem jd_Wa_init_9 : decode jb_Wa_init 9 = .ok (.aload_n 0, 1) := by decide +kernel
theorem jd_Wa_init_10 : decode jb_Wa_init 10 = .ok (.iconst 0, 1) := by decide +kernel
theorem jd_Wa_init_11 : decode jb_Wa_init 11 = .ok (.putfield 15, 3) := by decide +kernel
theorem jd_Wa_init_14 : decode jb_Wa_init 14 = .ok (.aload_n 0, 1) := by decide +kernel
theorem jd_Wa_init_15 : decode jb_Wa_init 15 = .ok (.sipush 1040, 3) := by decide +kernel
theorem jd_Wa_init_18 : decode jb_Wa_init 18 = .ok (.newarray .int, 2) := by decide +kernel
theorem jd_Wa_init_20 : decode jb_Wa_init 20 = .ok (.putfield 18, 3) := by decide +kernel
theorem jd_Wa_init_23 : decode jb_Wa_init 23 = .ok (.aload_n 0, 1) := by decide +kernel
theorem jd_Wa_init_24 : decode jb_Wa_init 24 = .ok (.sipush 1040, 3) := by decide +kernel
theorem jd_Wa_init_27 : decode jb_Wa_init 27 = .ok (.newarray .int, 2) := by decide +kernel
theorem jd_Wa_init_29 : decode jb_Wa_init 29 = .ok (.putfield 22, 3) := by decide +kernel
theorem jd_Wa_init_32 : decode jb_Wa_init 32 = .ok (.aload_n 0, 1) := by decide +kernel
theorem jd_Wa_init_33 : decode jb_Wa_init 33 = .ok (.sipush 1040, 3) := by decide +kernel
theorem jd_Wa_init_36 : decode jb_Wa_init 36 = .ok (.newarray .int, 2) := by decide +kernel
theorem jd_Wa_init_38 : decode jb_Wa_init 38 = .ok (.putfield 25, 3) := by decide +kernel
theorem jd_Wa_init_41 : decode jb_Wa_init 41 = .ok (.aload_n 0, 1) := by decide +kernel
theorem jd_Wa_init_42 : decode jb_Wa_init 42 = .ok (.sipush 1040, 3) := by decide +kernel
theorem jd_Wa_init_45 : decode jb_Wa_init 45 = .ok (.newarray .int, 2) := by decide +kernel
theorem jd_Wa_init_47 : decode jb_Wa_init 47 = .ok (.putfield 28, 3) := by decide +kernel
theorem jd_Wa_init_50 : decode jb_Wa_init 50 = .ok (.aload_n 0, 1) := by decide +kernel
theorem jd_Wa_init_51 : decode jb_Wa_init 51 = .ok (.iconst 0, 1) := by decide +kernel
theorem jd_Wa_init_52 : decode jb_Wa_init 52 = .ok (.putfield 31, 3) := by decide +kernel
theorem jd_Wa_init_55 : decode jb_Wa_init 55 = .ok (.aload_n 0, 1) := by decide +kernel
theorem jd_Wa_init_56 : decode jb_Wa_init 56 = .ok (.bipush 20, 2) := by decide +kernel
theorem jd_Wa_init_58 : decode jb_Wa_init 58 = .ok (.newarray .int, 2) := by decide +kernel
theorem jd_Wa_init_60 : decode jb_Wa_init 60 = .ok (.putfield 34, 3) := by decide +kernel
theorem jd_Wa_init_63 : decode jb_Wa_init 63 = .ok (.aload_n 0, 1) := by decide +kernel
theorem jd_Wa_init_64 : decode jb_Wa_init 64 = .ok (.bipush 20, 2) := by decide +kernel
theorem jd_Wa_init_66 : decode jb_Wa_init 66 = .ok (.newarray .int, 2) := by decide +kernel
theorem jd_Wa_init_68 : decode jb_Wa_init 68 = .ok (.putfield 37, 3) := by decide +kernel
theorem jd_Wa_init_71 : decode jb_Wa_init 71 = .ok (.return_, 1) := by decide +kernel
theorem jhi_Wa_init : jy_Wa_init.cls ≠ "java/lang/invoke/MethodHandle" ∧ jy_Wa_init.cls ≠ "java/lang/invoke/VarHandle" ∧ (parseMethodDescriptor jy_Wa_init.desc).map (fun d => d.parameters.length) = some 0 := by decide +kernel
set_option maxRecDepth 100000 in
set_option maxHeartbeats 4000000 in
theorem K_Wa_init (l : Launch) (g : j_G) (b : Nat) : j_MetC l g b 1 jy_Wa_init jb_Wa_init 1 143 144 150 6 4200 [.ref (b + 143)] := by
  refine j_enterC (plainFor_of_name (by decide)) (Nat.le_of_ble_eq_true rfl) [some (.ref (b + 143))] rfl ?_
  intro I P hBt p e R s m args below meth c X0 hO hnm hRc hRs
  have X : j_X p R s m args meth c g b 1 jb_Wa_init 1 "PleasureGarden$Watch" none := X0
  clear X0
  have hnm : meth.name = "<init>" := hnm
  have hB0 : j_Bl 144 I P := hBt.le (by omega)
  refine j_aload_n X jd_Wa_init_0 rfl rfl ?_
  refine j_objInit (st := []) X jlm_Wa_3 (by decide) (Nat.le_of_ble_eq_true rfl) jd_Wa_init_1 ?_
  refine j_aload_n X jd_Wa_init_4 rfl rfl ?_
  refine j_iconst (v := 0) X jd_Wa_init_5 (by decide) ?_
  refine j_puti X jt_Wa jto_Wa jn_Wa jf_Wa_9 jk_5_0 js_143 (by decide) (Or.inl rfl) rfl jd_Wa_init_6 ?_
  generalize hI1 : j_wr I 143 0 0 = I1
  have hB1 : j_Bl 144 I1 P := hI1 ▸ hB0.wr (by decide)
  refine j_aload_n X jd_Wa_init_9 rfl rfl ?_
  refine j_iconst (v := 0) X jd_Wa_init_10 (by decide) ?_
  refine j_puti X jt_Wa jto_Wa jn_Wa jf_Wa_15 jk_5_1 js_143 (by decide) (Or.inl rfl) rfl jd_Wa_init_11 ?_
  generalize hI2 : j_wr I1 143 1 0 = I2
  have hB2 : j_Bl 144 I2 P := hI2 ▸ hB1.wr (by decide)
  refine j_aload_n X jd_Wa_init_14 rfl rfl ?_
  refine j_sipush (v := 1040) X jd_Wa_init_15 (by decide) ?_
  refine j_newI (N := 1040) X hB2 (by decide) js_144 (by decide) (by decide) (by decide) (by rw [hRc]; decide) (by rw [hRs]; decide) jd_Wa_init_18 ?_
  have hB3 : j_Bl 145 I2 P := hB2.le (by decide)
  refine j_putr X jt_Wa jto_Wa jn_Wa jf_Wa_18 jk_5_2 js_143 (by decide) (Or.inr ⟨rfl, hnm, rfl⟩) rfl rfl rfl jd_Wa_init_20 ?_
  generalize hP4 : j_wp P 143 2 (some 144) = P4
  have hB4 : j_Bl 145 I2 P4 := hP4 ▸ hB3.wp (by decide)
  refine j_aload_n X jd_Wa_init_23 rfl rfl ?_
  refine j_sipush (v := 1040) X jd_Wa_init_24 (by decide) ?_
  refine j_newI (N := 1040) X hB4 (by decide) js_145 (by decide) (by decide) (by decide) (by rw [hRc]; decide) (by rw [hRs]; decide) jd_Wa_init_27 ?_
  have hB5 : j_Bl 146 I2 P4 := hB4.le (by decide)
  refine j_putr X jt_Wa jto_Wa jn_Wa jf_Wa_22 jk_5_3 js_143 (by decide) (Or.inr ⟨rfl, hnm, rfl⟩) rfl rfl rfl jd_Wa_init_29 ?_
  generalize hP6 : j_wp P4 143 3 (some 145) = P6
  have hB6 : j_Bl 146 I2 P6 := hP6 ▸ hB5.wp (by decide)
  refine j_aload_n X jd_Wa_init_32 rfl rfl ?_
  refine j_sipush (v := 1040) X jd_Wa_init_33 (by decide) ?_
  refine j_newI (N := 1040) X hB6 (by decide) js_146 (by decide) (by decide) (by decide) (by rw [hRc]; decide) (by rw [hRs]; decide) jd_Wa_init_36 ?_
  have hB7 : j_Bl 147 I2 P6 := hB6.le (by decide)
  refine j_putr X jt_Wa jto_Wa jn_Wa jf_Wa_25 jk_5_4 js_143 (by decide) (Or.inr ⟨rfl, hnm, rfl⟩) rfl rfl rfl jd_Wa_init_38 ?_
  generalize hP8 : j_wp P6 143 4 (some 146) = P8
  have hB8 : j_Bl 147 I2 P8 := hP8 ▸ hB7.wp (by decide)
  refine j_aload_n X jd_Wa_init_41 rfl rfl ?_
  refine j_sipush (v := 1040) X jd_Wa_init_42 (by decide) ?_
  refine j_newI (N := 1040) X hB8 (by decide) js_147 (by decide) (by decide) (by decide) (by rw [hRc]; decide) (by rw [hRs]; decide) jd_Wa_init_45 ?_
  have hB9 : j_Bl 148 I2 P8 := hB8.le (by decide)
  refine j_putr X jt_Wa jto_Wa jn_Wa jf_Wa_28 jk_5_5 js_143 (by decide) (Or.inr ⟨rfl, hnm, rfl⟩) rfl rfl rfl jd_Wa_init_47 ?_
  generalize hP10 : j_wp P8 143 5 (some 147) = P10
  have hB10 : j_Bl 148 I2 P10 := hP10 ▸ hB9.wp (by decide)
  refine j_aload_n X jd_Wa_init_50 rfl rfl ?_
  refine j_iconst (v := 0) X jd_Wa_init_51 (by decide) ?_
  refine j_puti X jt_Wa jto_Wa jn_Wa jf_Wa_31 jk_5_6 js_143 (by decide) (Or.inl rfl) rfl jd_Wa_init_52 ?_
  generalize hI11 : j_wr I2 143 6 0 = I11
  have hB11 : j_Bl 148 I11 P10 := hI11 ▸ hB10.wr (by decide)
  refine j_aload_n X jd_Wa_init_55 rfl rfl ?_
  refine j_bipush (v := 20) X jd_Wa_init_56 (by decide) ?_
  refine j_newI (N := 20) X hB11 (by decide) js_148 (by decide) (by decide) (by decide) (by rw [hRc]; decide) (by rw [hRs]; decide) jd_Wa_init_58 ?_
  have hB12 : j_Bl 149 I11 P10 := hB11.le (by decide)
  refine j_putr X jt_Wa jto_Wa jn_Wa jf_Wa_34 jk_5_7 js_143 (by decide) (Or.inr ⟨rfl, hnm, rfl⟩) rfl rfl rfl jd_Wa_init_60 ?_
  generalize hP13 : j_wp P10 143 7 (some 148) = P13
  have hB13 : j_Bl 149 I11 P13 := hP13 ▸ hB12.wp (by decide)
  refine j_aload_n X jd_Wa_init_63 rfl rfl ?_
  refine j_bipush (v := 20) X jd_Wa_init_64 (by decide) ?_
  refine j_newI (N := 20) X hB13 (by decide) js_149 (by decide) (by decide) (by decide) (by rw [hRc]; decide) (by rw [hRs]; decide) jd_Wa_init_66 ?_
  have hB14 : j_Bl 150 I11 P13 := hB13.le (by decide)
  refine j_putr X jt_Wa jto_Wa jn_Wa jf_Wa_37 jk_5_8 js_143 (by decide) (Or.inr ⟨rfl, hnm, rfl⟩) rfl rfl rfl jd_Wa_init_68 ?_
  generalize hP15 : j_wp P13 143 8 (some 149) = P15
  have hB15 : j_Bl 150 I11 P15 := hP15 ▸ hB14.wp (by decide)
  refine j_vretC X rfl ⟨hB15, fun c hc => ?_, ?_, fun c h1 h2 => ?_⟩ jd_Wa_init_71
  · have hne : c ≠ 143 := by omega
    subst hI1 hI2 hI11 hP4 hP6 hP8 hP10 hP13 hP15
    exact ⟨by simp [j_wr_cell _ _ _ hne], by simp [j_wp_cell _ _ _ hne]⟩
  · subst hI1 hI2 hI11 hP4 hP6 hP8 hP10 hP13 hP15
    refine ⟨fun q hq h1 h2 => ?_, fun q hq h1 h2 i hi => ?_⟩
    · have e : j_pfL.filter (fun q => decide (143 ≤ q.1 ∧ q.1 < 150)) = [(143, 2, 144), (143, 3, 145), (143, 4, 146), (143, 5, 147), (143, 7, 148), (143, 8, 149)] := by decide
      have hm : q ∈ [((143, 2, 144) : Nat × Nat × Nat), ((143, 3, 145) : Nat × Nat × Nat), ((143, 4, 146) : Nat × Nat × Nat), ((143, 5, 147) : Nat × Nat × Nat), ((143, 7, 148) : Nat × Nat × Nat), ((143, 8, 149) : Nat × Nat × Nat)] := by rw [← e]; exact List.mem_filter.mpr ⟨hq, decide_eq_true ⟨h1, h2⟩⟩
      simp only [List.mem_cons, List.not_mem_nil, or_false] at hm
      rcases hm with rfl | rfl | rfl | rfl | rfl | rfl <;> simp [j_wp, j_wq]
    · have e : j_paL.filter (fun q => decide (143 ≤ q.1 ∧ q.1 < 150)) = [] := by decide
      have hm : q ∈ ([] : List (Nat × Nat × Nat)) := by rw [← e]; exact List.mem_filter.mpr ⟨hq, decide_eq_true ⟨h1, h2⟩⟩
      cases hm
  · by_cases hc : c = 143
    · have h0 := hBt.1 143 (Nat.le_refl _)
      subst hc
      subst hI1 hI2 hI11 hP4 hP6 hP8 hP10 hP13 hP15
      funext k
      simp only [j_wr, true_and, h0]
      simp [jIf, jI0]
      try (repeat' split)
      all_goals (first | rfl | omega | simp_all)
    · subst hI1 hI2 hI11 hP4 hP6 hP8 hP10 hP13 hP15
      refine Eq.trans ?_ ((hBt.1 c h1).trans (jIf_plain (by omega)).symm)
      simp [j_wr_cell _ _ _ hc]
theorem jd_Bo_init_0 : decode jb_Bo_init 0 = .ok (.aload_n 0, 1) := by decide +kernel
theorem jd_Bo_init_1 : decode jb_Bo_init 1 = .ok (.invokespecial 1, 3) := by decide +kernel
theorem jd_Bo_init_4 : decode jb_Bo_init 4 = .ok (.aload_n 0, 1) := by decide +kernel
theorem jd_Bo_init_5 : decode jb_Bo_init 5 = .ok (.iconst 0, 1) := by decide +kernel
theorem jd_Bo_init_6 : decode jb_Bo_init 6 = .ok (.putfield 7, 3) := by decide +kernel
theorem jd_Bo_init_9 : decode jb_Bo_init 9 = .ok (.aload_n 0, 1) := by decide +kernel
theorem jd_Bo_init_10 : decode jb_Bo_init 10 = .ok (.bipush 20, 2) := by decide +kernel
theorem jd_Bo_init_12 : decode jb_Bo_init 12 = .ok (.newarray .int, 2) := by decide +kernel
theorem jd_Bo_init_14 : decode jb_Bo_init 14 = .ok (.putfield 13, 3) := by decide +kernel
theorem jd_Bo_init_17 : decode jb_Bo_init 17 = .ok (.aload_n 0, 1) := by decide +kernel
theorem jd_Bo_init_18 : decode jb_Bo_init 18 = .ok (.bipush 20, 2) := by decide +kernel
theorem jd_Bo_init_20 : decode jb_Bo_init 20 = .ok (.newarray .int, 2) := by decide +kernel
theorem jd_Bo_init_22 : decode jb_Bo_init 22 = .ok (.putfield 17, 3) := by decide +kernel
theorem jd_Bo_init_25 : decode jb_Bo_init 25 = .ok (.aload_n 0, 1) := by decide +kernel
theorem jd_Bo_init_26 : decode jb_Bo_init 26 = .ok (.bipush 20, 2) := by decide +kernel
theorem jd_Bo_init_28 : decode jb_Bo_init 28 = .ok (.newarray .int, 2) := by decide +kernel
theorem jd_Bo_init_30 : decode jb_Bo_init 30 = .ok (.putfield 20, 3) := by decide +kernel
theorem jd_Bo_init_33 : decode jb_Bo_init 33 = .ok (.return_, 1) := by decide +kernel
theorem jhi_Bo_init : jy_Bo_init.cls ≠ "java/lang/invoke/MethodHandle" ∧ jy_Bo_init.cls ≠ "java/lang/invoke/VarHandle" ∧ (parseMethodDescriptor jy_Bo_init.desc).map (fun d => d.parameters.length) = some 0 := by decide +kernel
set_option maxRecDepth 100000 in
set_option maxHeartbeats 4000000 in
theorem K_Bo_init (l : Launch) (g : j_G) (b : Nat) : j_MetC l g b 1 jy_Bo_init jb_Bo_init 1 194 195 198 3 60 [.ref (b + 194)] := by
  refine j_enterC (plainFor_of_name (by decide)) (Nat.le_of_ble_eq_true rfl) [some (.ref (b + 194))] rfl ?_
  intro I P hBt p e R s m args below meth c X0 hO hnm hRc hRs
  have X : j_X p R s m args meth c g b 1 jb_Bo_init 1 "PleasureGarden$Boxes" none := X0
  clear X0
  have hnm : meth.name = "<init>" := hnm
  have hB0 : j_Bl 195 I P := hBt.le (by omega)
  refine j_aload_n X jd_Bo_init_0 rfl rfl ?_
  refine j_objInit (st := []) X jlm_Bo_1 (by decide) (Nat.le_of_ble_eq_true rfl) jd_Bo_init_1 ?_
  refine j_aload_n X jd_Bo_init_4 rfl rfl ?_
  refine j_iconst (v := 0) X jd_Bo_init_5 (by decide) ?_
  refine j_puti X jt_Bo jto_Bo jn_Bo jf_Bo_7 jk_7_0 js_194 (by decide) (Or.inl rfl) rfl jd_Bo_init_6 ?_
  generalize hI1 : j_wr I 194 0 0 = I1
  have hB1 : j_Bl 195 I1 P := hI1 ▸ hB0.wr (by decide)
  refine j_aload_n X jd_Bo_init_9 rfl rfl ?_
  refine j_bipush (v := 20) X jd_Bo_init_10 (by decide) ?_
  refine j_newI (N := 20) X hB1 (by decide) js_195 (by decide) (by decide) (by decide) (by rw [hRc]; decide) (by rw [hRs]; decide) jd_Bo_init_12 ?_
  have hB2 : j_Bl 196 I1 P := hB1.le (by decide)
  refine j_putr X jt_Bo jto_Bo jn_Bo jf_Bo_13 jk_7_1 js_194 (by decide) (Or.inr ⟨rfl, hnm, rfl⟩) rfl rfl rfl jd_Bo_init_14 ?_
  generalize hP3 : j_wp P 194 1 (some 195) = P3
  have hB3 : j_Bl 196 I1 P3 := hP3 ▸ hB2.wp (by decide)
  refine j_aload_n X jd_Bo_init_17 rfl rfl ?_
  refine j_bipush (v := 20) X jd_Bo_init_18 (by decide) ?_
  refine j_newI (N := 20) X hB3 (by decide) js_196 (by decide) (by decide) (by decide) (by rw [hRc]; decide) (by rw [hRs]; decide) jd_Bo_init_20 ?_
  have hB4 : j_Bl 197 I1 P3 := hB3.le (by decide)
  refine j_putr X jt_Bo jto_Bo jn_Bo jf_Bo_17 jk_7_2 js_194 (by decide) (Or.inr ⟨rfl, hnm, rfl⟩) rfl rfl rfl jd_Bo_init_22 ?_
  generalize hP5 : j_wp P3 194 2 (some 196) = P5
  have hB5 : j_Bl 197 I1 P5 := hP5 ▸ hB4.wp (by decide)
  refine j_aload_n X jd_Bo_init_25 rfl rfl ?_
  refine j_bipush (v := 20) X jd_Bo_init_26 (by decide) ?_
  refine j_newI (N := 20) X hB5 (by decide) js_197 (by decide) (by decide) (by decide) (by rw [hRc]; decide) (by rw [hRs]; decide) jd_Bo_init_28 ?_
  have hB6 : j_Bl 198 I1 P5 := hB5.le (by decide)
  refine j_putr X jt_Bo jto_Bo jn_Bo jf_Bo_20 jk_7_3 js_194 (by decide) (Or.inr ⟨rfl, hnm, rfl⟩) rfl rfl rfl jd_Bo_init_30 ?_
  generalize hP7 : j_wp P5 194 3 (some 197) = P7
  have hB7 : j_Bl 198 I1 P7 := hP7 ▸ hB6.wp (by decide)
  refine j_vretC X rfl ⟨hB7, fun c hc => ?_, ?_, fun c h1 h2 => ?_⟩ jd_Bo_init_33
  · have hne : c ≠ 194 := by omega
    subst hI1 hP3 hP5 hP7
    exact ⟨by simp [j_wr_cell _ _ _ hne], by simp [j_wp_cell _ _ _ hne]⟩
  · subst hI1 hP3 hP5 hP7
    refine ⟨fun q hq h1 h2 => ?_, fun q hq h1 h2 i hi => ?_⟩
    · have e : j_pfL.filter (fun q => decide (194 ≤ q.1 ∧ q.1 < 198)) = [(194, 1, 195), (194, 2, 196), (194, 3, 197)] := by decide
      have hm : q ∈ [((194, 1, 195) : Nat × Nat × Nat), ((194, 2, 196) : Nat × Nat × Nat), ((194, 3, 197) : Nat × Nat × Nat)] := by rw [← e]; exact List.mem_filter.mpr ⟨hq, decide_eq_true ⟨h1, h2⟩⟩
      simp only [List.mem_cons, List.not_mem_nil, or_false] at hm
      rcases hm with rfl | rfl | rfl <;> simp [j_wp, j_wq]
    · have e : j_paL.filter (fun q => decide (194 ≤ q.1 ∧ q.1 < 198)) = [] := by decide
      have hm : q ∈ ([] : List (Nat × Nat × Nat)) := by rw [← e]; exact List.mem_filter.mpr ⟨hq, decide_eq_true ⟨h1, h2⟩⟩
      cases hm
  · by_cases hc : c = 194
    · have h0 := hBt.1 194 (Nat.le_refl _)
      subst hc
      subst hI1 hP3 hP5 hP7
      funext k
      simp only [j_wr, true_and, h0]
      simp [jIf, jI0]
      try (repeat' split)
      all_goals (first | rfl | omega | simp_all)
    · subst hI1 hP3 hP5 hP7
      refine Eq.trans ?_ ((hBt.1 c h1).trans (jIf_plain (by omega)).symm)
      simp [j_wr_cell _ _ _ hc]
theorem jd_Ki_init_0 : decode jb_Ki_init 0 = .ok (.aload_n 0, 1) := by decide +kernel
theorem jd_Ki_init_1 : decode jb_Ki_init 1 = .ok (.invokespecial 1, 3) := by decide +kernel
theorem jd_Ki_init_4 : decode jb_Ki_init 4 = .ok (.aload_n 0, 1) := by decide +kernel
theorem jd_Ki_init_5 : decode jb_Ki_init 5 = .ok (.iconst 0, 1) := by decide +kernel
theorem jd_Ki_init_6 : decode jb_Ki_init 6 = .ok (.putfield 7, 3) := by decide +kernel
theorem jd_Ki_init_9 : decode jb_Ki_init 9 = .ok (.aload_n 0, 1) := by decide +kernel
theorem jd_Ki_init_10 : decode jb_Ki_init 10 = .ok (.bipush 10, 2) := by decide +kernel
theorem jd_Ki_init_12 : decode jb_Ki_init 12 = .ok (.putfield 13, 3) := by decide +kernel
theorem jd_Ki_init_15 : decode jb_Ki_init 15 = .ok (.aload_n 0, 1) := by decide +kernel
theorem jd_Ki_init_16 : decode jb_Ki_init 16 = .ok (.iconst 1, 1) := by decide +kernel
theorem jd_Ki_init_17 : decode jb_Ki_init 17 = .ok (.putfield 16, 3) := by decide +kernel
theorem jd_Ki_init_20 : decode jb_Ki_init 20 = .ok (.aload_n 0, 1) := by decide +kernel
theorem jd_Ki_init_21 : decode jb_Ki_init 21 = .ok (.iconst 0, 1) := by decide +kernel
theorem jd_Ki_init_22 : decode jb_Ki_init 22 = .ok (.putfield 19, 3) := by decide +kernel
theorem jd_Ki_init_25 : decode jb_Ki_init 25 = .ok (.aload_n 0, 1) := by decide +kernel
theorem jd_Ki_init_26 : decode jb_Ki_init 26 = .ok (.iconst 0, 1) := by decide +kernel
theorem jd_Ki_init_27 : decode jb_Ki_init 27 = .ok (.putfield 22, 3) := by decide +kernel
theorem jd_Ki_init_30 : decode jb_Ki_init 30 = .ok (.aload_n 0, 1) := by decide +kernel
theorem jd_Ki_init_31 : decode jb_Ki_init 31 = .ok (.bipush 60, 2) := by decide +kernel
theorem jd_Ki_init_33 : decode jb_Ki_init 33 = .ok (.newarray .int, 2) := by decide +kernel
theorem jd_Ki_init_35 : decode jb_Ki_init 35 = .ok (.putfield 25, 3) := by decide +kernel
theorem jd_Ki_init_38 : decode jb_Ki_init 38 = .ok (.aload_n 0, 1) := by decide +kernel
theorem jd_Ki_init_39 : decode jb_Ki_init 39 = .ok (.bipush 60, 2) := by decide +kernel
theorem jd_Ki_init_41 : decode jb_Ki_init 41 = .ok (.newarray .int, 2) := by decide +kernel
theorem jd_Ki_init_43 : decode jb_Ki_init 43 = .ok (.putfield 29, 3) := by decide +kernel
theorem jd_Ki_init_46 : decode jb_Ki_init 46 = .ok (.aload_n 0, 1) := by decide +kernel
theorem jd_Ki_init_47 : decode jb_Ki_init 47 = .ok (.bipush 60, 2) := by decide +kernel
theorem jd_Ki_init_49 : decode jb_Ki_init 49 = .ok (.newarray .boolean, 2) := by decide +kernel
theorem jd_Ki_init_51 : decode jb_Ki_init 51 = .ok (.putfield 32, 3) := by decide +kernel
theorem jd_Ki_init_54 : decode jb_Ki_init 54 = .ok (.return_, 1) := by decide +kernel
theorem jhi_Ki_init : jy_Ki_init.cls ≠ "java/lang/invoke/MethodHandle" ∧ jy_Ki_init.cls ≠ "java/lang/invoke/VarHandle" ∧ (parseMethodDescriptor jy_Ki_init.desc).map (fun d => d.parameters.length) = some 0 := by decide +kernel
set_option maxRecDepth 100000 in
set_option maxHeartbeats 4000000 in
theorem K_Ki_init (l : Launch) (g : j_G) (b : Nat) : j_MetC l g b 1 jy_Ki_init jb_Ki_init 1 198 199 202 3 180 [.ref (b + 198)] := by
  refine j_enterC (plainFor_of_name (by decide)) (Nat.le_of_ble_eq_true rfl) [some (.ref (b + 198))] rfl ?_
  intro I P hBt p e R s m args below meth c X0 hO hnm hRc hRs
  have X : j_X p R s m args meth c g b 1 jb_Ki_init 1 "PleasureGarden$Kitchen" none := X0
  clear X0
  have hnm : meth.name = "<init>" := hnm
  have hB0 : j_Bl 199 I P := hBt.le (by omega)
  refine j_aload_n X jd_Ki_init_0 rfl rfl ?_
  refine j_objInit (st := []) X jlm_Ki_1 (by decide) (Nat.le_of_ble_eq_true rfl) jd_Ki_init_1 ?_
  refine j_aload_n X jd_Ki_init_4 rfl rfl ?_
  refine j_iconst (v := 0) X jd_Ki_init_5 (by decide) ?_
  refine j_puti X jt_Ki jto_Ki jn_Ki jf_Ki_7 jk_8_0 js_198 (by decide) (Or.inl rfl) rfl jd_Ki_init_6 ?_
  generalize hI1 : j_wr I 198 0 0 = I1
  have hB1 : j_Bl 199 I1 P := hI1 ▸ hB0.wr (by decide)
  refine j_aload_n X jd_Ki_init_9 rfl rfl ?_
  refine j_bipush (v := 10) X jd_Ki_init_10 (by decide) ?_
  refine j_puti X jt_Ki jto_Ki jn_Ki jf_Ki_13 jk_8_1 js_198 (by decide) (Or.inl rfl) rfl jd_Ki_init_12 ?_
  generalize hI2 : j_wr I1 198 1 10 = I2
  have hB2 : j_Bl 199 I2 P := hI2 ▸ hB1.wr (by decide)
  refine j_aload_n X jd_Ki_init_15 rfl rfl ?_
  refine j_iconst (v := 1) X jd_Ki_init_16 (by decide) ?_
  refine j_puti X jt_Ki jto_Ki jn_Ki jf_Ki_16 jk_8_2 js_198 (by decide) (Or.inl rfl) rfl jd_Ki_init_17 ?_
  generalize hI3 : j_wr I2 198 2 1 = I3
  have hB3 : j_Bl 199 I3 P := hI3 ▸ hB2.wr (by decide)
  refine j_aload_n X jd_Ki_init_20 rfl rfl ?_
  refine j_iconst (v := 0) X jd_Ki_init_21 (by decide) ?_
  refine j_puti X jt_Ki jto_Ki jn_Ki jf_Ki_19 jk_8_3 js_198 (by decide) (Or.inl rfl) rfl jd_Ki_init_22 ?_
  generalize hI4 : j_wr I3 198 3 0 = I4
  have hB4 : j_Bl 199 I4 P := hI4 ▸ hB3.wr (by decide)
  refine j_aload_n X jd_Ki_init_25 rfl rfl ?_
  refine j_iconst (v := 0) X jd_Ki_init_26 (by decide) ?_
  refine j_puti X jt_Ki jto_Ki jn_Ki jf_Ki_22 jk_8_4 js_198 (by decide) (Or.inl rfl) rfl jd_Ki_init_27 ?_
  generalize hI5 : j_wr I4 198 4 0 = I5
  have hB5 : j_Bl 199 I5 P := hI5 ▸ hB4.wr (by decide)
  refine j_aload_n X jd_Ki_init_30 rfl rfl ?_
  refine j_bipush (v := 60) X jd_Ki_init_31 (by decide) ?_
  refine j_newI (N := 60) X hB5 (by decide) js_199 (by decide) (by decide) (by decide) (by rw [hRc]; decide) (by rw [hRs]; decide) jd_Ki_init_33 ?_
  have hB6 : j_Bl 200 I5 P := hB5.le (by decide)
  refine j_putr X jt_Ki jto_Ki jn_Ki jf_Ki_25 jk_8_5 js_198 (by decide) (Or.inr ⟨rfl, hnm, rfl⟩) rfl rfl rfl jd_Ki_init_35 ?_
  generalize hP7 : j_wp P 198 5 (some 199) = P7
  have hB7 : j_Bl 200 I5 P7 := hP7 ▸ hB6.wp (by decide)
  refine j_aload_n X jd_Ki_init_38 rfl rfl ?_
  refine j_bipush (v := 60) X jd_Ki_init_39 (by decide) ?_
  refine j_newI (N := 60) X hB7 (by decide) js_200 (by decide) (by decide) (by decide) (by rw [hRc]; decide) (by rw [hRs]; decide) jd_Ki_init_41 ?_
  have hB8 : j_Bl 201 I5 P7 := hB7.le (by decide)
  refine j_putr X jt_Ki jto_Ki jn_Ki jf_Ki_29 jk_8_6 js_198 (by decide) (Or.inr ⟨rfl, hnm, rfl⟩) rfl rfl rfl jd_Ki_init_43 ?_
  generalize hP9 : j_wp P7 198 6 (some 200) = P9
  have hB9 : j_Bl 201 I5 P9 := hP9 ▸ hB8.wp (by decide)
  refine j_aload_n X jd_Ki_init_46 rfl rfl ?_
  refine j_bipush (v := 60) X jd_Ki_init_47 (by decide) ?_
  refine j_newZ (N := 60) X hB9 (by decide) js_201 (by decide) (by decide) (by decide) (by rw [hRc]; decide) (by rw [hRs]; decide) jd_Ki_init_49 ?_
  have hB10 : j_Bl 202 I5 P9 := hB9.le (by decide)
  refine j_putr X jt_Ki jto_Ki jn_Ki jf_Ki_32 jk_8_7 js_198 (by decide) (Or.inr ⟨rfl, hnm, rfl⟩) rfl rfl rfl jd_Ki_init_51 ?_
  generalize hP11 : j_wp P9 198 7 (some 201) = P11
  have hB11 : j_Bl 202 I5 P11 := hP11 ▸ hB10.wp (by decide)
  refine j_vretC X rfl ⟨hB11, fun c hc => ?_, ?_, fun c h1 h2 => ?_⟩ jd_Ki_init_54
  · have hne : c ≠ 198 := by omega
    subst hI1 hI2 hI3 hI4 hI5 hP7 hP9 hP11
    exact ⟨by simp [j_wr_cell _ _ _ hne], by simp [j_wp_cell _ _ _ hne]⟩
  · subst hI1 hI2 hI3 hI4 hI5 hP7 hP9 hP11
    refine ⟨fun q hq h1 h2 => ?_, fun q hq h1 h2 i hi => ?_⟩
    · have e : j_pfL.filter (fun q => decide (198 ≤ q.1 ∧ q.1 < 202)) = [(198, 5, 199), (198, 6, 200), (198, 7, 201)] := by decide
      have hm : q ∈ [((198, 5, 199) : Nat × Nat × Nat), ((198, 6, 200) : Nat × Nat × Nat), ((198, 7, 201) : Nat × Nat × Nat)] := by rw [← e]; exact List.mem_filter.mpr ⟨hq, decide_eq_true ⟨h1, h2⟩⟩
      simp only [List.mem_cons, List.not_mem_nil, or_false] at hm
      rcases hm with rfl | rfl | rfl <;> simp [j_wp, j_wq]
    · have e : j_paL.filter (fun q => decide (198 ≤ q.1 ∧ q.1 < 202)) = [] := by decide
      have hm : q ∈ ([] : List (Nat × Nat × Nat)) := by rw [← e]; exact List.mem_filter.mpr ⟨hq, decide_eq_true ⟨h1, h2⟩⟩
      cases hm
  · by_cases hc : c = 198
    · have h0 := hBt.1 198 (Nat.le_refl _)
      subst hc
      subst hI1 hI2 hI3 hI4 hI5 hP7 hP9 hP11
      funext k
      simp only [j_wr, true_and, h0]
      simp [jIf, jI0]
      try (repeat' split)
      all_goals (first | rfl | omega | simp_all)
    · subst hI1 hI2 hI3 hI4 hI5 hP7 hP9 hP11
      refine Eq.trans ?_ ((hBt.1 c h1).trans (jIf_plain (by omega)).symm)
      simp [j_wr_cell _ _ _ hc]
theorem jd_Re_init_0 : decode jb_Re_init 0 = .ok (.aload_n 0, 1) := by decide +kernel
theorem jd_Re_init_1 : decode jb_Re_init 1 = .ok (.invokespecial 1, 3) := by decide +kernel
theorem jd_Re_init_4 : decode jb_Re_init 4 = .ok (.aload_n 0, 1) := by decide +kernel
theorem jd_Re_init_5 : decode jb_Re_init 5 = .ok (.bipush 8, 2) := by decide +kernel
theorem jd_Re_init_7 : decode jb_Re_init 7 = .ok (.newarray .int, 2) := by decide +kernel
theorem jd_Re_init_9 : decode jb_Re_init 9 = .ok (.putfield 7, 3) := by decide +kernel
theorem jd_Re_init_12 : decode jb_Re_init 12 = .ok (.aload_n 0, 1) := by decide +kernel
theorem jd_Re_init_13 : decode jb_Re_init 13 = .ok (.iconst (-1), 1) := by decide +kernel
theorem jd_Re_init_14 : decode jb_Re_init 14 = .ok (.putfield 13, 3) := by decide +kernel
theorem jd_Re_init_17 : decode jb_Re_init 17 = .ok (.aload_n 0, 1) := by decide +kernel
theorem jd_Re_init_18 : decode jb_Re_init 18 = .ok (.iconst 0, 1) := by decide +kernel
theorem jd_Re_init_19 : decode jb_Re_init 19 = .ok (.newarray .byte, 2) := by decide +kernel
theorem jd_Re_init_21 : decode jb_Re_init 21 = .ok (.putfield 17, 3) := by decide +kernel
theorem jd_Re_init_24 : decode jb_Re_init 24 = .ok (.aload_n 0, 1) := by decide +kernel
theorem jd_Re_init_25 : decode jb_Re_init 25 = .ok (.iconst 0, 1) := by decide +kernel
theorem jd_Re_init_26 : decode jb_Re_init 26 = .ok (.putfield 21, 3) := by decide +kernel
theorem jd_Re_init_29 : decode jb_Re_init 29 = .ok (.aload_n 0, 1) := by decide +kernel
theorem jd_Re_init_30 : decode jb_Re_init 30 = .ok (.iconst 0, 1) := by decide +kernel
theorem jd_Re_init_31 : decode jb_Re_init 31 = .ok (.putfield 24, 3) := by decide +kernel
theorem jd_Re_init_34 : decode jb_Re_init 34 = .ok (.aload_n 0, 1) := by decide +kernel
theorem jd_Re_init_35 : decode jb_Re_init 35 = .ok (.iconst 0, 1) := by decide +kernel
theorem jd_Re_init_36 : decode jb_Re_init 36 = .ok (.putfield 27, 3) := by decide +kernel
theorem jd_Re_init_39 : decode jb_Re_init 39 = .ok (.return_, 1) := by decide +kernel
theorem jhi_Re_init : jy_Re_init.cls ≠ "java/lang/invoke/MethodHandle" ∧ jy_Re_init.cls ≠ "java/lang/invoke/VarHandle" ∧ (parseMethodDescriptor jy_Re_init.desc).map (fun d => d.parameters.length) = some 0 := by decide +kernel
set_option maxRecDepth 100000 in
set_option maxHeartbeats 4000000 in
theorem K_Re_init (l : Launch) (g : j_G) (b : Nat) : j_MetC l g b 1 jy_Re_init jb_Re_init 1 208 209 211 2 8 [.ref (b + 208)] := by
  refine j_enterC (plainFor_of_name (by decide)) (Nat.le_of_ble_eq_true rfl) [some (.ref (b + 208))] rfl ?_
  intro I P hBt p e R s m args below meth c X0 hO hnm hRc hRs
  have X : j_X p R s m args meth c g b 1 jb_Re_init 1 "PleasureGarden$Reader" none := X0
  clear X0
  have hnm : meth.name = "<init>" := hnm
  have hB0 : j_Bl 209 I P := hBt.le (by omega)
  refine j_aload_n X jd_Re_init_0 rfl rfl ?_
  refine j_objInit (st := []) X jlm_Re_1 (by decide) (Nat.le_of_ble_eq_true rfl) jd_Re_init_1 ?_
  refine j_aload_n X jd_Re_init_4 rfl rfl ?_
  refine j_bipush (v := 8) X jd_Re_init_5 (by decide) ?_
  refine j_newI (N := 8) X hB0 (by decide) js_209 (by decide) (by decide) (by decide) (by rw [hRc]; decide) (by rw [hRs]; decide) jd_Re_init_7 ?_
  have hB1 : j_Bl 210 I P := hB0.le (by decide)
  refine j_putr X jt_Re jto_Re jn_Re jf_Re_7 jk_10_0 js_208 (by decide) (Or.inr ⟨rfl, hnm, rfl⟩) rfl rfl rfl jd_Re_init_9 ?_
  generalize hP2 : j_wp P 208 0 (some 209) = P2
  have hB2 : j_Bl 210 I P2 := hP2 ▸ hB1.wp (by decide)
  refine j_aload_n X jd_Re_init_12 rfl rfl ?_
  refine j_iconst (v := (-1)) X jd_Re_init_13 (by decide) ?_
  refine j_puti X jt_Re jto_Re jn_Re jf_Re_13 jk_10_1 js_208 (by decide) (Or.inl rfl) rfl jd_Re_init_14 ?_
  generalize hI3 : j_wr I 208 1 (-1) = I3
  have hB3 : j_Bl 210 I3 P2 := hI3 ▸ hB2.wr (by decide)
  refine j_aload_n X jd_Re_init_17 rfl rfl ?_
  refine j_iconst (v := 0) X jd_Re_init_18 (by decide) ?_
  refine j_newB (N := 0) X hB3 (by decide) js_210 (by decide) (by decide) (by decide) (by rw [hRc]; decide) (by rw [hRs]; decide) jd_Re_init_19 ?_
  have hB4 : j_Bl 211 I3 P2 := hB3.le (by decide)
  refine j_putt X 210 (by decide) jt_Re jto_Re jn_Re jf_Re_17 jk_10_2 js_208 (by decide) (Or.inl rfl) rfl jd_Re_init_21 ?_
  generalize hI5 : j_wr I3 208 2 (nI 210) = I5
  have hB5 : j_Bl 211 I5 P2 := hI5 ▸ hB4.wr (by decide)
  refine j_aload_n X jd_Re_init_24 rfl rfl ?_
  refine j_iconst (v := 0) X jd_Re_init_25 (by decide) ?_
  refine j_puti X jt_Re jto_Re jn_Re jf_Re_21 jk_10_3 js_208 (by decide) (Or.inl rfl) rfl jd_Re_init_26 ?_
  generalize hI6 : j_wr I5 208 3 0 = I6
  have hB6 : j_Bl 211 I6 P2 := hI6 ▸ hB5.wr (by decide)
  refine j_aload_n X jd_Re_init_29 rfl rfl ?_
  refine j_iconst (v := 0) X jd_Re_init_30 (by decide) ?_
  refine j_puti X jt_Re jto_Re jn_Re jf_Re_24 jk_10_4 js_208 (by decide) (Or.inl rfl) rfl jd_Re_init_31 ?_
  generalize hI7 : j_wr I6 208 4 0 = I7
  have hB7 : j_Bl 211 I7 P2 := hI7 ▸ hB6.wr (by decide)
  refine j_aload_n X jd_Re_init_34 rfl rfl ?_
  refine j_iconst (v := 0) X jd_Re_init_35 (by decide) ?_
  refine j_puti X jt_Re jto_Re jn_Re jf_Re_27 jk_10_5 js_208 (by decide) (Or.inl rfl) rfl jd_Re_init_36 ?_
  generalize hI8 : j_wr I7 208 5 0 = I8
  have hB8 : j_Bl 211 I8 P2 := hI8 ▸ hB7.wr (by decide)
  refine j_vretC X rfl ⟨hB8, fun c hc => ?_, ?_, fun c h1 h2 => ?_⟩ jd_Re_init_39
  · have hne : c ≠ 208 := by omega
    subst hI3 hI5 hI6 hI7 hI8 hP2
    exact ⟨by simp [j_wr_cell _ _ _ hne], by simp [j_wp_cell _ _ _ hne]⟩
  · subst hI3 hI5 hI6 hI7 hI8 hP2
    refine ⟨fun q hq h1 h2 => ?_, fun q hq h1 h2 i hi => ?_⟩
    · have e : j_pfL.filter (fun q => decide (208 ≤ q.1 ∧ q.1 < 211)) = [(208, 0, 209)] := by decide
      have hm : q ∈ [((208, 0, 209) : Nat × Nat × Nat)] := by rw [← e]; exact List.mem_filter.mpr ⟨hq, decide_eq_true ⟨h1, h2⟩⟩
      simp only [List.mem_cons, List.not_mem_nil, or_false] at hm
      rcases hm with rfl; simp [j_wp, j_wq]
    · have e : j_paL.filter (fun q => decide (208 ≤ q.1 ∧ q.1 < 211)) = [] := by decide
      have hm : q ∈ ([] : List (Nat × Nat × Nat)) := by rw [← e]; exact List.mem_filter.mpr ⟨hq, decide_eq_true ⟨h1, h2⟩⟩
      cases hm
  · by_cases hc : c = 208
    · have h0 := hBt.1 208 (Nat.le_refl _)
      subst hc
      subst hI3 hI5 hI6 hI7 hI8 hP2
      funext k
      simp only [j_wr, true_and, h0]
      simp [jIf, jI0]
      try (repeat' split)
      all_goals (first | rfl | omega | simp_all)
    · subst hI3 hI5 hI6 hI7 hI8 hP2
      refine Eq.trans ?_ ((hBt.1 c h1).trans (jIf_plain (by omega)).symm)
      simp [j_wr_cell _ _ _ hc]
theorem jd_Le_init_0 : decode jb_Le_init 0 = .ok (.aload_n 0, 1) := by decide +kernel
theorem jd_Le_init_1 : decode jb_Le_init 1 = .ok (.invokespecial 3, 3) := by decide +kernel
theorem jd_Le_init_4 : decode jb_Le_init 4 = .ok (.aload_n 0, 1) := by decide +kernel
theorem jd_Le_init_5 : decode jb_Le_init 5 = .ok (.iconst 0, 1) := by decide +kernel
theorem jd_Le_init_6 : decode jb_Le_init 6 = .ok (.putfield 9, 3) := by decide +kernel
theorem jd_Le_init_9 : decode jb_Le_init 9 = .ok (.aload_n 0, 1) := by decide +kernel
theorem jd_Le_init_10 : decode jb_Le_init 10 = .ok (.sipush 200, 3) := by decide +kernel
theorem jd_Le_init_13 : decode jb_Le_init 13 = .ok (.newarray .int, 2) := by decide +kernel
theorem jd_Le_init_15 : decode jb_Le_init 15 = .ok (.putfield 15, 3) := by decide +kernel
theorem jd_Le_init_18 : decode jb_Le_init 18 = .ok (.aload_n 0, 1) := by decide +kernel
theorem jd_Le_init_19 : decode jb_Le_init 19 = .ok (.sipush 200, 3) := by decide +kernel
theorem jd_Le_init_22 : decode jb_Le_init 22 = .ok (.newarray .int, 2) := by decide +kernel
theorem jd_Le_init_24 : decode jb_Le_init 24 = .ok (.putfield 19, 3) := by decide +kernel
theorem jd_Le_init_27 : decode jb_Le_init 27 = .ok (.aload_n 0, 1) := by decide +kernel
theorem jd_Le_init_28 : decode jb_Le_init 28 = .ok (.sipush 200, 3) := by decide +kernel
theorem jd_Le_init_31 : decode jb_Le_init 31 = .ok (.newarray .int, 2) := by decide +kernel
theorem jd_Le_init_33 : decode jb_Le_init 33 = .ok (.putfield 22, 3) := by decide +kernel
theorem jd_Le_init_36 : decode jb_Le_init 36 = .ok (.return_, 1) := by decide +kernel
theorem jhi_Le_init : jy_Le_init.cls ≠ "java/lang/invoke/MethodHandle" ∧ jy_Le_init.cls ≠ "java/lang/invoke/VarHandle" ∧ (parseMethodDescriptor jy_Le_init.desc).map (fun d => d.parameters.length) = some 0 := by decide +kernel
set_option maxRecDepth 100000 in
set_option maxHeartbeats 4000000 in
theorem K_Le_init (l : Launch) (g : j_G) (b : Nat) : j_MetC l g b 1 jy_Le_init jb_Le_init 1 211 212 215 3 600 [.ref (b + 211)] := by
  refine j_enterC (plainFor_of_name (by decide)) (Nat.le_of_ble_eq_true rfl) [some (.ref (b + 211))] rfl ?_
  intro I P hBt p e R s m args below meth c X0 hO hnm hRc hRs
  have X : j_X p R s m args meth c g b 1 jb_Le_init 1 "PleasureGarden$Ledger" none := X0
  clear X0
  have hnm : meth.name = "<init>" := hnm
  have hB0 : j_Bl 212 I P := hBt.le (by omega)
  refine j_aload_n X jd_Le_init_0 rfl rfl ?_
  refine j_objInit (st := []) X jlm_Le_3 (by decide) (Nat.le_of_ble_eq_true rfl) jd_Le_init_1 ?_
  refine j_aload_n X jd_Le_init_4 rfl rfl ?_
  refine j_iconst (v := 0) X jd_Le_init_5 (by decide) ?_
  refine j_puti X jt_Le jto_Le jn_Le jf_Le_9 jk_11_0 js_211 (by decide) (Or.inl rfl) rfl jd_Le_init_6 ?_
  generalize hI1 : j_wr I 211 0 0 = I1
  have hB1 : j_Bl 212 I1 P := hI1 ▸ hB0.wr (by decide)
  refine j_aload_n X jd_Le_init_9 rfl rfl ?_
  refine j_sipush (v := 200) X jd_Le_init_10 (by decide) ?_
  refine j_newI (N := 200) X hB1 (by decide) js_212 (by decide) (by decide) (by decide) (by rw [hRc]; decide) (by rw [hRs]; decide) jd_Le_init_13 ?_
  have hB2 : j_Bl 213 I1 P := hB1.le (by decide)
  refine j_putr X jt_Le jto_Le jn_Le jf_Le_15 jk_11_1 js_211 (by decide) (Or.inr ⟨rfl, hnm, rfl⟩) rfl rfl rfl jd_Le_init_15 ?_
  generalize hP3 : j_wp P 211 1 (some 212) = P3
  have hB3 : j_Bl 213 I1 P3 := hP3 ▸ hB2.wp (by decide)
  refine j_aload_n X jd_Le_init_18 rfl rfl ?_
  refine j_sipush (v := 200) X jd_Le_init_19 (by decide) ?_
  refine j_newI (N := 200) X hB3 (by decide) js_213 (by decide) (by decide) (by decide) (by rw [hRc]; decide) (by rw [hRs]; decide) jd_Le_init_22 ?_
  have hB4 : j_Bl 214 I1 P3 := hB3.le (by decide)
  refine j_putr X jt_Le jto_Le jn_Le jf_Le_19 jk_11_2 js_211 (by decide) (Or.inr ⟨rfl, hnm, rfl⟩) rfl rfl rfl jd_Le_init_24 ?_
  generalize hP5 : j_wp P3 211 2 (some 213) = P5
  have hB5 : j_Bl 214 I1 P5 := hP5 ▸ hB4.wp (by decide)
  refine j_aload_n X jd_Le_init_27 rfl rfl ?_
  refine j_sipush (v := 200) X jd_Le_init_28 (by decide) ?_
  refine j_newI (N := 200) X hB5 (by decide) js_214 (by decide) (by decide) (by decide) (by rw [hRc]; decide) (by rw [hRs]; decide) jd_Le_init_31 ?_
  have hB6 : j_Bl 215 I1 P5 := hB5.le (by decide)
  refine j_putr X jt_Le jto_Le jn_Le jf_Le_22 jk_11_3 js_211 (by decide) (Or.inr ⟨rfl, hnm, rfl⟩) rfl rfl rfl jd_Le_init_33 ?_
  generalize hP7 : j_wp P5 211 3 (some 214) = P7
  have hB7 : j_Bl 215 I1 P7 := hP7 ▸ hB6.wp (by decide)
  refine j_vretC X rfl ⟨hB7, fun c hc => ?_, ?_, fun c h1 h2 => ?_⟩ jd_Le_init_36
  · have hne : c ≠ 211 := by omega
    subst hI1 hP3 hP5 hP7
    exact ⟨by simp [j_wr_cell _ _ _ hne], by simp [j_wp_cell _ _ _ hne]⟩
  · subst hI1 hP3 hP5 hP7
    refine ⟨fun q hq h1 h2 => ?_, fun q hq h1 h2 i hi => ?_⟩
    · have e : j_pfL.filter (fun q => decide (211 ≤ q.1 ∧ q.1 < 215)) = [(211, 1, 212), (211, 2, 213), (211, 3, 214)] := by decide
      have hm : q ∈ [((211, 1, 212) : Nat × Nat × Nat), ((211, 2, 213) : Nat × Nat × Nat), ((211, 3, 214) : Nat × Nat × Nat)] := by rw [← e]; exact List.mem_filter.mpr ⟨hq, decide_eq_true ⟨h1, h2⟩⟩
      simp only [List.mem_cons, List.not_mem_nil, or_false] at hm
      rcases hm with rfl | rfl | rfl <;> simp [j_wp, j_wq]
    · have e : j_paL.filter (fun q => decide (211 ≤ q.1 ∧ q.1 < 215)) = [] := by decide
      have hm : q ∈ ([] : List (Nat × Nat × Nat)) := by rw [← e]; exact List.mem_filter.mpr ⟨hq, decide_eq_true ⟨h1, h2⟩⟩
      cases hm
  · by_cases hc : c = 211
    · have h0 := hBt.1 211 (Nat.le_refl _)
      subst hc
      subst hI1 hP3 hP5 hP7
      funext k
      simp only [j_wr, true_and, h0]
      simp [jIf, jI0]
      try (repeat' split)
      all_goals (first | rfl | omega | simp_all)
    · subst hI1 hP3 hP5 hP7
      refine Eq.trans ?_ ((hBt.1 c h1).trans (jIf_plain (by omega)).symm)
      simp [j_wr_cell _ _ _ hc]
theorem jd_M_init_0 : decode jb_M_init 0 = .ok (.aload_n 0, 1) := by decide +kernel
theorem jd_M_init_1 : decode jb_M_init 1 = .ok (.invokespecial 1, 3) := by decide +kernel
theorem jd_M_init_4 : decode jb_M_init 4 = .ok (.aload_n 0, 1) := by decide +kernel
theorem jd_M_init_5 : decode jb_M_init 5 = .ok (.bipush 16, 2) := by decide +kernel
theorem jd_M_init_7 : decode jb_M_init 7 = .ok (.newarray .int, 2) := by decide +kernel
theorem jd_M_init_9 : decode jb_M_init 9 = .ok (.putfield 7, 3) := by decide +kernel
theorem jd_M_init_12 : decode jb_M_init 12 = .ok (.aload_n 0, 1) := by decide +kernel
theorem jd_M_init_13 : decode jb_M_init 13 = .ok (.bipush 16, 2) := by decide +kernel
theorem jd_M_init_15 : decode jb_M_init 15 = .ok (.newarray .boolean, 2) := by decide +kernel
theorem jd_M_init_17 : decode jb_M_init 17 = .ok (.putfield 13, 3) := by decide +kernel
theorem jd_M_init_20 : decode jb_M_init 20 = .ok (.aload_n 0, 1) := by decide +kernel
theorem jd_M_init_21 : decode jb_M_init 21 = .ok (.sipush 256, 3) := by decide +kernel
theorem jd_M_init_24 : decode jb_M_init 24 = .ok (.newarray .int, 2) := by decide +kernel
theorem jd_M_init_26 : decode jb_M_init 26 = .ok (.putfield 17, 3) := by decide +kernel
theorem jd_M_init_29 : decode jb_M_init 29 = .ok (.aload_n 0, 1) := by decide +kernel
theorem jd_M_init_30 : decode jb_M_init 30 = .ok (.bipush 20, 2) := by decide +kernel
theorem jd_M_init_32 : decode jb_M_init 32 = .ok (.newarray .int, 2) := by decide +kernel
theorem jd_M_init_34 : decode jb_M_init 34 = .ok (.putfield 20, 3) := by decide +kernel
theorem jd_M_init_37 : decode jb_M_init 37 = .ok (.aload_n 0, 1) := by decide +kernel
theorem jd_M_init_38 : decode jb_M_init 38 = .ok (.bipush 20, 2) := by decide +kernel
theorem jd_M_init_40 : decode jb_M_init 40 = .ok (.newarray .int, 2) := by decide +kernel
theorem jd_M_init_42 : decode jb_M_init 42 = .ok (.putfield 23, 3) := by decide +kernel
theorem jd_M_init_45 : decode jb_M_init 45 = .ok (.aload_n 0, 1) := by decide +kernel
theorem jd_M_init_46 : decode jb_M_init 46 = .ok (.bipush 16, 2) := by decide +kernel
theorem jd_M_init_48 : decode jb_M_init 48 = .ok (.newarray .int, 2) := by decide +kernel
theorem jd_M_init_50 : decode jb_M_init 50 = .ok (.putfield 26, 3) := by decide +kernel
theorem jd_M_init_53 : decode jb_M_init 53 = .ok (.aload_n 0, 1) := by decide +kernel
theorem jd_M_init_54 : decode jb_M_init 54 = .ok (.sipush 300, 3) := by decide +kernel
theorem jd_M_init_57 : decode jb_M_init 57 = .ok (.newarray .boolean, 2) := by decide +kernel
theorem jd_M_init_59 : decode jb_M_init 59 = .ok (.putfield 29, 3) := by decide +kernel
theorem jd_M_init_62 : decode jb_M_init 62 = .ok (.aload_n 0, 1) := by decide +kernel
theorem jd_M_init_63 : decode jb_M_init 63 = .ok (.bipush 100, 2) := by decide +kernel
theorem jd_M_init_65 : decode jb_M_init 65 = .ok (.newarray .int, 2) := by decide +kernel
theorem jd_M_init_67 : decode jb_M_init 67 = .ok (.putfield 32, 3) := by decide +kernel
theorem jd_M_init_70 : decode jb_M_init 70 = .ok (.aload_n 0, 1) := by decide +kernel
theorem jd_M_init_71 : decode jb_M_init 71 = .ok (.bipush 100, 2) := by decide +kernel
theorem jd_M_init_73 : decode jb_M_init 73 = .ok (.newarray .int, 2) := by decide +kernel
theorem jd_M_init_75 : decode jb_M_init 75 = .ok (.putfield 35, 3) := by decide +kernel
theorem jd_M_init_78 : decode jb_M_init 78 = .ok (.aload_n 0, 1) := by decide +kernel
theorem jd_M_init_79 : decode jb_M_init 79 = .ok (.bipush 100, 2) := by decide +kernel
theorem jd_M_init_81 : decode jb_M_init 81 = .ok (.newarray .int, 2) := by decide +kernel
theorem jd_M_init_83 : decode jb_M_init 83 = .ok (.putfield 38, 3) := by decide +kernel
theorem jd_M_init_86 : decode jb_M_init 86 = .ok (.aload_n 0, 1) := by decide +kernel
theorem jd_M_init_87 : decode jb_M_init 87 = .ok (.bipush 100, 2) := by decide +kernel
theorem jd_M_init_89 : decode jb_M_init 89 = .ok (.newarray .int, 2) := by decide +kernel
theorem jd_M_init_91 : decode jb_M_init 91 = .ok (.putfield 41, 3) := by decide +kernel
theorem jd_M_init_94 : decode jb_M_init 94 = .ok (.aload_n 0, 1) := by decide +kernel
theorem jd_M_init_95 : decode jb_M_init 95 = .ok (.bipush 100, 2) := by decide +kernel
theorem jd_M_init_97 : decode jb_M_init 97 = .ok (.newarray .int, 2) := by decide +kernel
theorem jd_M_init_99 : decode jb_M_init 99 = .ok (.putfield 44, 3) := by decide +kernel
theorem jd_M_init_102 : decode jb_M_init 102 = .ok (.aload_n 0, 1) := by decide +kernel
theorem jd_M_init_103 : decode jb_M_init 103 = .ok (.bipush 100, 2) := by decide +kernel
theorem jd_M_init_105 : decode jb_M_init 105 = .ok (.newarray .int, 2) := by decide +kernel
theorem jd_M_init_107 : decode jb_M_init 107 = .ok (.putfield 47, 3) := by decide +kernel
theorem jd_M_init_110 : decode jb_M_init 110 = .ok (.aload_n 0, 1) := by decide +kernel
theorem jd_M_init_111 : decode jb_M_init 111 = .ok (.bipush 100, 2) := by decide +kernel
theorem jd_M_init_113 : decode jb_M_init 113 = .ok (.newarray .int, 2) := by decide +kernel
theorem jd_M_init_115 : decode jb_M_init 115 = .ok (.putfield 50, 3) := by decide +kernel
theorem jd_M_init_118 : decode jb_M_init 118 = .ok (.aload_n 0, 1) := by decide +kernel
theorem jd_M_init_119 : decode jb_M_init 119 = .ok (.bipush 100, 2) := by decide +kernel
theorem jd_M_init_121 : decode jb_M_init 121 = .ok (.newarray .int, 2) := by decide +kernel
theorem jd_M_init_123 : decode jb_M_init 123 = .ok (.putfield 53, 3) := by decide +kernel
theorem jd_M_init_126 : decode jb_M_init 126 = .ok (.aload_n 0, 1) := by decide +kernel
theorem jd_M_init_127 : decode jb_M_init 127 = .ok (.bipush 100, 2) := by decide +kernel
theorem jd_M_init_129 : decode jb_M_init 129 = .ok (.newarray .int, 2) := by decide +kernel
theorem jd_M_init_131 : decode jb_M_init 131 = .ok (.putfield 56, 3) := by decide +kernel
theorem jd_M_init_134 : decode jb_M_init 134 = .ok (.aload_n 0, 1) := by decide +kernel
theorem jd_M_init_135 : decode jb_M_init 135 = .ok (.bipush 100, 2) := by decide +kernel
theorem jd_M_init_137 : decode jb_M_init 137 = .ok (.newarray .int, 2) := by decide +kernel
theorem jd_M_init_139 : decode jb_M_init 139 = .ok (.putfield 59, 3) := by decide +kernel
theorem jd_M_init_142 : decode jb_M_init 142 = .ok (.aload_n 0, 1) := by decide +kernel
theorem jd_M_init_143 : decode jb_M_init 143 = .ok (.ldc 62, 2) := by decide +kernel
theorem jd_M_init_145 : decode jb_M_init 145 = .ok (.newarray .byte, 2) := by decide +kernel
theorem jd_M_init_147 : decode jb_M_init 147 = .ok (.putfield 63, 3) := by decide +kernel
theorem jd_M_init_150 : decode jb_M_init 150 = .ok (.aload_n 0, 1) := by decide +kernel
theorem jd_M_init_151 : decode jb_M_init 151 = .ok (.bipush 40, 2) := by decide +kernel
theorem jd_M_init_153 : decode jb_M_init 153 = .ok (.newarray .int, 2) := by decide +kernel
theorem jd_M_init_155 : decode jb_M_init 155 = .ok (.putfield 67, 3) := by decide +kernel
theorem jd_M_init_158 : decode jb_M_init 158 = .ok (.aload_n 0, 1) := by decide +kernel
theorem jd_M_init_159 : decode jb_M_init 159 = .ok (.bipush 80, 2) := by decide +kernel
theorem jd_M_init_161 : decode jb_M_init 161 = .ok (.newarray .int, 2) := by decide +kernel
theorem jd_M_init_163 : decode jb_M_init 163 = .ok (.putfield 70, 3) := by decide +kernel
theorem jd_M_init_166 : decode jb_M_init 166 = .ok (.aload_n 0, 1) := by decide +kernel
theorem jd_M_init_167 : decode jb_M_init 167 = .ok (.bipush 80, 2) := by decide +kernel
theorem jd_M_init_169 : decode jb_M_init 169 = .ok (.newarray .int, 2) := by decide +kernel
theorem jd_M_init_171 : decode jb_M_init 171 = .ok (.putfield 73, 3) := by decide +kernel
theorem jd_M_init_174 : decode jb_M_init 174 = .ok (.aload_n 0, 1) := by decide +kernel
theorem jd_M_init_175 : decode jb_M_init 175 = .ok (.bipush 80, 2) := by decide +kernel
theorem jd_M_init_177 : decode jb_M_init 177 = .ok (.newarray .int, 2) := by decide +kernel
theorem jd_M_init_179 : decode jb_M_init 179 = .ok (.putfield 76, 3) := by decide +kernel
theorem jd_M_init_182 : decode jb_M_init 182 = .ok (.aload_n 0, 1) := by decide +kernel
theorem jd_M_init_183 : decode jb_M_init 183 = .ok (.bipush 40, 2) := by decide +kernel
theorem jd_M_init_185 : decode jb_M_init 185 = .ok (.newarray .int, 2) := by decide +kernel
theorem jd_M_init_187 : decode jb_M_init 187 = .ok (.putfield 79, 3) := by decide +kernel
theorem jd_M_init_190 : decode jb_M_init 190 = .ok (.aload_n 0, 1) := by decide +kernel
theorem jd_M_init_191 : decode jb_M_init 191 = .ok (.bipush 40, 2) := by decide +kernel
theorem jd_M_init_193 : decode jb_M_init 193 = .ok (.newarray .int, 2) := by decide +kernel
theorem jd_M_init_195 : decode jb_M_init 195 = .ok (.putfield 82, 3) := by decide +kernel
theorem jd_M_init_198 : decode jb_M_init 198 = .ok (.aload_n 0, 1) := by decide +kernel
theorem jd_M_init_199 : decode jb_M_init 199 = .ok (.bipush 20, 2) := by decide +kernel
theorem jd_M_init_201 : decode jb_M_init 201 = .ok (.newarray .int, 2) := by decide +kernel
theorem jd_M_init_203 : decode jb_M_init 203 = .ok (.putfield 85, 3) := by decide +kernel
theorem jd_M_init_206 : decode jb_M_init 206 = .ok (.aload_n 0, 1) := by decide +kernel
theorem jd_M_init_207 : decode jb_M_init 207 = .ok (.bipush 20, 2) := by decide +kernel
theorem jd_M_init_209 : decode jb_M_init 209 = .ok (.newarray .int, 2) := by decide +kernel
theorem jd_M_init_211 : decode jb_M_init 211 = .ok (.putfield 88, 3) := by decide +kernel
theorem jd_M_init_214 : decode jb_M_init 214 = .ok (.aload_n 0, 1) := by decide +kernel
theorem jd_M_init_215 : decode jb_M_init 215 = .ok (.bipush 10, 2) := by decide +kernel
theorem jd_M_init_217 : decode jb_M_init 217 = .ok (.putfield 91, 3) := by decide +kernel
theorem jd_M_init_220 : decode jb_M_init 220 = .ok (.aload_n 0, 1) := by decide +kernel
theorem jd_M_init_221 : decode jb_M_init 221 = .ok (.iconst 1, 1) := by decide +kernel
theorem jd_M_init_222 : decode jb_M_init 222 = .ok (.putfield 95, 3) := by decide +kernel
theorem jd_M_init_225 : decode jb_M_init 225 = .ok (.aload_n 0, 1) := by decide +kernel
theorem jd_M_init_226 : decode jb_M_init 226 = .ok (.bipush 60, 2) := by decide +kernel
theorem jd_M_init_228 : decode jb_M_init 228 = .ok (.newarray .int, 2) := by decide +kernel
theorem jd_M_init_230 : decode jb_M_init 230 = .ok (.putfield 98, 3) := by decide +kernel
theorem jd_M_init_233 : decode jb_M_init 233 = .ok (.aload_n 0, 1) := by decide +kernel
theorem jd_M_init_234 : decode jb_M_init 234 = .ok (.bipush 60, 2) := by decide +kernel
theorem jd_M_init_236 : decode jb_M_init 236 = .ok (.newarray .int, 2) := by decide +kernel
theorem jd_M_init_238 : decode jb_M_init 238 = .ok (.putfield 101, 3) := by decide +kernel
theorem jd_M_init_241 : decode jb_M_init 241 = .ok (.aload_n 0, 1) := by decide +kernel
theorem jd_M_init_242 : decode jb_M_init 242 = .ok (.bipush 60, 2) := by decide +kernel
theorem jd_M_init_244 : decode jb_M_init 244 = .ok (.newarray .boolean, 2) := by decide +kernel
theorem jd_M_init_246 : decode jb_M_init 246 = .ok (.putfield 104, 3) := by decide +kernel
theorem jd_M_init_249 : decode jb_M_init 249 = .ok (.aload_n 0, 1) := by decide +kernel
theorem jd_M_init_250 : decode jb_M_init 250 = .ok (.bipush 120, 2) := by decide +kernel
theorem jd_M_init_252 : decode jb_M_init 252 = .ok (.newarray .byte, 2) := by decide +kernel
theorem jd_M_init_254 : decode jb_M_init 254 = .ok (.putfield 107, 3) := by decide +kernel
theorem jd_M_init_257 : decode jb_M_init 257 = .ok (.aload_n 0, 1) := by decide +kernel
theorem jd_M_init_258 : decode jb_M_init 258 = .ok (.bipush 30, 2) := by decide +kernel
theorem jd_M_init_260 : decode jb_M_init 260 = .ok (.newarray .int, 2) := by decide +kernel
theorem jd_M_init_262 : decode jb_M_init 262 = .ok (.putfield 110, 3) := by decide +kernel
theorem jd_M_init_265 : decode jb_M_init 265 = .ok (.aload_n 0, 1) := by decide +kernel
theorem jd_M_init_266 : decode jb_M_init 266 = .ok (.bipush 30, 2) := by decide +kernel
theorem jd_M_init_268 : decode jb_M_init 268 = .ok (.newarray .int, 2) := by decide +kernel
theorem jd_M_init_270 : decode jb_M_init 270 = .ok (.putfield 113, 3) := by decide +kernel
theorem jd_M_init_273 : decode jb_M_init 273 = .ok (.aload_n 0, 1) := by decide +kernel
theorem jd_M_init_274 : decode jb_M_init 274 = .ok (.bipush 30, 2) := by decide +kernel
theorem jd_M_init_276 : decode jb_M_init 276 = .ok (.newarray .int, 2) := by decide +kernel
theorem jd_M_init_278 : decode jb_M_init 278 = .ok (.putfield 116, 3) := by decide +kernel
theorem jd_M_init_281 : decode jb_M_init 281 = .ok (.aload_n 0, 1) := by decide +kernel
theorem jd_M_init_282 : decode jb_M_init 282 = .ok (.bipush 30, 2) := by decide +kernel
theorem jd_M_init_284 : decode jb_M_init 284 = .ok (.newarray .int, 2) := by decide +kernel
theorem jd_M_init_286 : decode jb_M_init 286 = .ok (.putfield 119, 3) := by decide +kernel
theorem jd_M_init_289 : decode jb_M_init 289 = .ok (.aload_n 0, 1) := by decide +kernel
theorem jd_M_init_290 : decode jb_M_init 290 = .ok (.sipush 3900, 3) := by decide +kernel
theorem jd_M_init_293 : decode jb_M_init 293 = .ok (.newarray .int, 2) := by decide +kernel
theorem jd_M_init_295 : decode jb_M_init 295 = .ok (.putfield 122, 3) := by decide +kernel
theorem jd_M_init_298 : decode jb_M_init 298 = .ok (.aload_n 0, 1) := by decide +kernel
theorem jd_M_init_299 : decode jb_M_init 299 = .ok (.sipush 3900, 3) := by decide +kernel
theorem jd_M_init_302 : decode jb_M_init 302 = .ok (.newarray .int, 2) := by decide +kernel
theorem jd_M_init_304 : decode jb_M_init 304 = .ok (.putfield 125, 3) := by decide +kernel
theorem jd_M_init_307 : decode jb_M_init 307 = .ok (.aload_n 0, 1) := by decide +kernel
theorem jd_M_init_308 : decode jb_M_init 308 = .ok (.sipush 130, 3) := by decide +kernel
theorem jd_M_init_311 : decode jb_M_init 311 = .ok (.newarray .int, 2) := by decide +kernel
theorem jd_M_init_313 : decode jb_M_init 313 = .ok (.putfield 128, 3) := by decide +kernel
theorem jd_M_init_316 : decode jb_M_init 316 = .ok (.aload_n 0, 1) := by decide +kernel
theorem jd_M_init_317 : decode jb_M_init 317 = .ok (.sipush 128, 3) := by decide +kernel
theorem jd_M_init_320 : decode jb_M_init 320 = .ok (.newarray .int, 2) := by decide +kernel
theorem jd_M_init_322 : decode jb_M_init 322 = .ok (.putfield 131, 3) := by decide +kernel
theorem jd_M_init_325 : decode jb_M_init 325 = .ok (.aload_n 0, 1) := by decide +kernel
theorem jd_M_init_326 : decode jb_M_init 326 = .ok (.sipush 130, 3) := by decide +kernel
theorem jd_M_init_329 : decode jb_M_init 329 = .ok (.newarray .int, 2) := by decide +kernel
theorem jd_M_init_331 : decode jb_M_init 331 = .ok (.putfield 134, 3) := by decide +kernel
theorem jd_M_init_334 : decode jb_M_init 334 = .ok (.aload_n 0, 1) := by decide +kernel
theorem jd_M_init_335 : decode jb_M_init 335 = .ok (.sipush 200, 3) := by decide +kernel
theorem jd_M_init_338 : decode jb_M_init 338 = .ok (.newarray .int, 2) := by decide +kernel
theorem jd_M_init_340 : decode jb_M_init 340 = .ok (.putfield 137, 3) := by decide +kernel
theorem jd_M_init_343 : decode jb_M_init 343 = .ok (.aload_n 0, 1) := by decide +kernel
theorem jd_M_init_344 : decode jb_M_init 344 = .ok (.sipush 200, 3) := by decide +kernel
theorem jd_M_init_347 : decode jb_M_init 347 = .ok (.newarray .int, 2) := by decide +kernel
theorem jd_M_init_349 : decode jb_M_init 349 = .ok (.putfield 140, 3) := by decide +kernel
theorem jd_M_init_352 : decode jb_M_init 352 = .ok (.aload_n 0, 1) := by decide +kernel
theorem jd_M_init_353 : decode jb_M_init 353 = .ok (.sipush 200, 3) := by decide +kernel
theorem jd_M_init_356 : decode jb_M_init 356 = .ok (.newarray .int, 2) := by decide +kernel
theorem jd_M_init_358 : decode jb_M_init 358 = .ok (.putfield 143, 3) := by decide +kernel
theorem jd_M_init_361 : decode jb_M_init 361 = .ok (.aload_n 0, 1) := by decide +kernel
theorem jd_M_init_362 : decode jb_M_init 362 = .ok (.bipush 20, 2) := by decide +kernel
theorem jd_M_init_364 : decode jb_M_init 364 = .ok (.newarray .int, 2) := by decide +kernel
theorem jd_M_init_366 : decode jb_M_init 366 = .ok (.putfield 146, 3) := by decide +kernel
theorem jd_M_init_369 : decode jb_M_init 369 = .ok (.aload_n 0, 1) := by decide +kernel
theorem jd_M_init_370 : decode jb_M_init 370 = .ok (.bipush 20, 2) := by decide +kernel
theorem jd_M_init_372 : decode jb_M_init 372 = .ok (.newarray .int, 2) := by decide +kernel
theorem jd_M_init_374 : decode jb_M_init 374 = .ok (.putfield 149, 3) := by decide +kernel
theorem jd_M_init_377 : decode jb_M_init 377 = .ok (.return_, 1) := by decide +kernel
theorem jhi_M_init : jy_M_init.cls ≠ "java/lang/invoke/MethodHandle" ∧ jy_M_init.cls ≠ "java/lang/invoke/VarHandle" ∧ (parseMethodDescriptor jy_M_init.desc).map (fun d => d.parameters.length) = some 0 := by decide +kernel
set_option maxRecDepth 100000 in
set_option maxHeartbeats 4000000 in
theorem K_M_init (l : Launch) (g : j_G) (b : Nat) : j_MetC l g b 1 jy_M_init jb_M_init 1 215 216 260 44 59292 [.ref (b + 215)] := by
  refine j_enterC (plainFor_of_name (by decide)) (Nat.le_of_ble_eq_true rfl) [some (.ref (b + 215))] rfl ?_
  intro I P hBt p e R s m args below meth c X0 hO hnm hRc hRs
  have X : j_X p R s m args meth c g b 1 jb_M_init 1 "PleasureGardenModel" none := X0
  clear X0
  have hnm : meth.name = "<init>" := hnm
  have hB0 : j_Bl 216 I P := hBt.le (by omega)
  refine j_aload_n X jd_M_init_0 rfl rfl ?_
  refine j_objInit (st := []) X jlm_M_1 (by decide) (Nat.le_of_ble_eq_true rfl) jd_M_init_1 ?_
  refine j_aload_n X jd_M_init_4 rfl rfl ?_
  refine j_bipush (v := 16) X jd_M_init_5 (by decide) ?_
  refine j_newI (N := 16) X hB0 (by decide) js_216 (by decide) (by decide) (by decide) (by rw [hRc]; decide) (by rw [hRs]; decide) jd_M_init_7 ?_
  have hB1 : j_Bl 217 I P := hB0.le (by decide)
  refine j_putr X jt_M jto_M jn_M jf_M_7 jk_12_4 js_215 (by decide) (Or.inr ⟨rfl, hnm, rfl⟩) rfl rfl rfl jd_M_init_9 ?_
  generalize hP2 : j_wp P 215 4 (some 216) = P2
  have hB2 : j_Bl 217 I P2 := hP2 ▸ hB1.wp (by decide)
  refine j_aload_n X jd_M_init_12 rfl rfl ?_
  refine j_bipush (v := 16) X jd_M_init_13 (by decide) ?_
  refine j_newZ (N := 16) X hB2 (by decide) js_217 (by decide) (by decide) (by decide) (by rw [hRc]; decide) (by rw [hRs]; decide) jd_M_init_15 ?_
  have hB3 : j_Bl 218 I P2 := hB2.le (by decide)
  refine j_putr X jt_M jto_M jn_M jf_M_13 jk_12_5 js_215 (by decide) (Or.inr ⟨rfl, hnm, rfl⟩) rfl rfl rfl jd_M_init_17 ?_
  generalize hP4 : j_wp P2 215 5 (some 217) = P4
  have hB4 : j_Bl 218 I P4 := hP4 ▸ hB3.wp (by decide)
  refine j_aload_n X jd_M_init_20 rfl rfl ?_
  refine j_sipush (v := 256) X jd_M_init_21 (by decide) ?_
  refine j_newI (N := 256) X hB4 (by decide) js_218 (by decide) (by decide) (by decide) (by rw [hRc]; decide) (by rw [hRs]; decide) jd_M_init_24 ?_
  have hB5 : j_Bl 219 I P4 := hB4.le (by decide)
  refine j_putr X jt_M jto_M jn_M jf_M_17 jk_12_6 js_215 (by decide) (Or.inr ⟨rfl, hnm, rfl⟩) rfl rfl rfl jd_M_init_26 ?_
  generalize hP6 : j_wp P4 215 6 (some 218) = P6
  have hB6 : j_Bl 219 I P6 := hP6 ▸ hB5.wp (by decide)
  refine j_aload_n X jd_M_init_29 rfl rfl ?_
  refine j_bipush (v := 20) X jd_M_init_30 (by decide) ?_
  refine j_newI (N := 20) X hB6 (by decide) js_219 (by decide) (by decide) (by decide) (by rw [hRc]; decide) (by rw [hRs]; decide) jd_M_init_32 ?_
  have hB7 : j_Bl 220 I P6 := hB6.le (by decide)
  refine j_putr X jt_M jto_M jn_M jf_M_20 jk_12_8 js_215 (by decide) (Or.inr ⟨rfl, hnm, rfl⟩) rfl rfl rfl jd_M_init_34 ?_
  generalize hP8 : j_wp P6 215 8 (some 219) = P8
  have hB8 : j_Bl 220 I P8 := hP8 ▸ hB7.wp (by decide)
  refine j_aload_n X jd_M_init_37 rfl rfl ?_
  refine j_bipush (v := 20) X jd_M_init_38 (by decide) ?_
  refine j_newI (N := 20) X hB8 (by decide) js_220 (by decide) (by decide) (by decide) (by rw [hRc]; decide) (by rw [hRs]; decide) jd_M_init_40 ?_
  have hB9 : j_Bl 221 I P8 := hB8.le (by decide)
  refine j_putr X jt_M jto_M jn_M jf_M_23 jk_12_9 js_215 (by decide) (Or.inr ⟨rfl, hnm, rfl⟩) rfl rfl rfl jd_M_init_42 ?_
  generalize hP10 : j_wp P8 215 9 (some 220) = P10
  have hB10 : j_Bl 221 I P10 := hP10 ▸ hB9.wp (by decide)
  refine j_aload_n X jd_M_init_45 rfl rfl ?_
  refine j_bipush (v := 16) X jd_M_init_46 (by decide) ?_
  refine j_newI (N := 16) X hB10 (by decide) js_221 (by decide) (by decide) (by decide) (by rw [hRc]; decide) (by rw [hRs]; decide) jd_M_init_48 ?_
  have hB11 : j_Bl 222 I P10 := hB10.le (by decide)
  refine j_putr X jt_M jto_M jn_M jf_M_26 jk_12_10 js_215 (by decide) (Or.inr ⟨rfl, hnm, rfl⟩) rfl rfl rfl jd_M_init_50 ?_
  generalize hP12 : j_wp P10 215 10 (some 221) = P12
  have hB12 : j_Bl 222 I P12 := hP12 ▸ hB11.wp (by decide)
  refine j_aload_n X jd_M_init_53 rfl rfl ?_
  refine j_sipush (v := 300) X jd_M_init_54 (by decide) ?_
  refine j_newZ (N := 300) X hB12 (by decide) js_222 (by decide) (by decide) (by decide) (by rw [hRc]; decide) (by rw [hRs]; decide) jd_M_init_57 ?_
  have hB13 : j_Bl 223 I P12 := hB12.le (by decide)
  refine j_putr X jt_M jto_M jn_M jf_M_29 jk_12_11 js_215 (by decide) (Or.inr ⟨rfl, hnm, rfl⟩) rfl rfl rfl jd_M_init_59 ?_
  generalize hP14 : j_wp P12 215 11 (some 222) = P14
  have hB14 : j_Bl 223 I P14 := hP14 ▸ hB13.wp (by decide)
  refine j_aload_n X jd_M_init_62 rfl rfl ?_
  refine j_bipush (v := 100) X jd_M_init_63 (by decide) ?_
  refine j_newI (N := 100) X hB14 (by decide) js_223 (by decide) (by decide) (by decide) (by rw [hRc]; decide) (by rw [hRs]; decide) jd_M_init_65 ?_
  have hB15 : j_Bl 224 I P14 := hB14.le (by decide)
  refine j_putr X jt_M jto_M jn_M jf_M_32 jk_12_13 js_215 (by decide) (Or.inr ⟨rfl, hnm, rfl⟩) rfl rfl rfl jd_M_init_67 ?_
  generalize hP16 : j_wp P14 215 13 (some 223) = P16
  have hB16 : j_Bl 224 I P16 := hP16 ▸ hB15.wp (by decide)
  refine j_aload_n X jd_M_init_70 rfl rfl ?_
  refine j_bipush (v := 100) X jd_M_init_71 (by decide) ?_
  refine j_newI (N := 100) X hB16 (by decide) js_224 (by decide) (by decide) (by decide) (by rw [hRc]; decide) (by rw [hRs]; decide) jd_M_init_73 ?_
  have hB17 : j_Bl 225 I P16 := hB16.le (by decide)
  refine j_putr X jt_M jto_M jn_M jf_M_35 jk_12_14 js_215 (by decide) (Or.inr ⟨rfl, hnm, rfl⟩) rfl rfl rfl jd_M_init_75 ?_
  generalize hP18 : j_wp P16 215 14 (some 224) = P18
  have hB18 : j_Bl 225 I P18 := hP18 ▸ hB17.wp (by decide)
  refine j_aload_n X jd_M_init_78 rfl rfl ?_
  refine j_bipush (v := 100) X jd_M_init_79 (by decide) ?_
  refine j_newI (N := 100) X hB18 (by decide) js_225 (by decide) (by decide) (by decide) (by rw [hRc]; decide) (by rw [hRs]; decide) jd_M_init_81 ?_
  have hB19 : j_Bl 226 I P18 := hB18.le (by decide)
  refine j_putr X jt_M jto_M jn_M jf_M_38 jk_12_15 js_215 (by decide) (Or.inr ⟨rfl, hnm, rfl⟩) rfl rfl rfl jd_M_init_83 ?_
  generalize hP20 : j_wp P18 215 15 (some 225) = P20
  have hB20 : j_Bl 226 I P20 := hP20 ▸ hB19.wp (by decide)
  refine j_aload_n X jd_M_init_86 rfl rfl ?_
  refine j_bipush (v := 100) X jd_M_init_87 (by decide) ?_
  refine j_newI (N := 100) X hB20 (by decide) js_226 (by decide) (by decide) (by decide) (by rw [hRc]; decide) (by rw [hRs]; decide) jd_M_init_89 ?_
  have hB21 : j_Bl 227 I P20 := hB20.le (by decide)
  refine j_putr X jt_M jto_M jn_M jf_M_41 jk_12_16 js_215 (by decide) (Or.inr ⟨rfl, hnm, rfl⟩) rfl rfl rfl jd_M_init_91 ?_
  generalize hP22 : j_wp P20 215 16 (some 226) = P22
  have hB22 : j_Bl 227 I P22 := hP22 ▸ hB21.wp (by decide)
  refine j_aload_n X jd_M_init_94 rfl rfl ?_
  refine j_bipush (v := 100) X jd_M_init_95 (by decide) ?_
  refine j_newI (N := 100) X hB22 (by decide) js_227 (by decide) (by decide) (by decide) (by rw [hRc]; decide) (by rw [hRs]; decide) jd_M_init_97 ?_
  have hB23 : j_Bl 228 I P22 := hB22.le (by decide)
  refine j_putr X jt_M jto_M jn_M jf_M_44 jk_12_17 js_215 (by decide) (Or.inr ⟨rfl, hnm, rfl⟩) rfl rfl rfl jd_M_init_99 ?_
  generalize hP24 : j_wp P22 215 17 (some 227) = P24
  have hB24 : j_Bl 228 I P24 := hP24 ▸ hB23.wp (by decide)
  refine j_aload_n X jd_M_init_102 rfl rfl ?_
  refine j_bipush (v := 100) X jd_M_init_103 (by decide) ?_
  refine j_newI (N := 100) X hB24 (by decide) js_228 (by decide) (by decide) (by decide) (by rw [hRc]; decide) (by rw [hRs]; decide) jd_M_init_105 ?_
  have hB25 : j_Bl 229 I P24 := hB24.le (by decide)
  refine j_putr X jt_M jto_M jn_M jf_M_47 jk_12_18 js_215 (by decide) (Or.inr ⟨rfl, hnm, rfl⟩) rfl rfl rfl jd_M_init_107 ?_
  generalize hP26 : j_wp P24 215 18 (some 228) = P26
  have hB26 : j_Bl 229 I P26 := hP26 ▸ hB25.wp (by decide)
  refine j_aload_n X jd_M_init_110 rfl rfl ?_
  refine j_bipush (v := 100) X jd_M_init_111 (by decide) ?_
  refine j_newI (N := 100) X hB26 (by decide) js_229 (by decide) (by decide) (by decide) (by rw [hRc]; decide) (by rw [hRs]; decide) jd_M_init_113 ?_
  have hB27 : j_Bl 230 I P26 := hB26.le (by decide)
  refine j_putr X jt_M jto_M jn_M jf_M_50 jk_12_19 js_215 (by decide) (Or.inr ⟨rfl, hnm, rfl⟩) rfl rfl rfl jd_M_init_115 ?_
  generalize hP28 : j_wp P26 215 19 (some 229) = P28
  have hB28 : j_Bl 230 I P28 := hP28 ▸ hB27.wp (by decide)
  refine j_aload_n X jd_M_init_118 rfl rfl ?_
  refine j_bipush (v := 100) X jd_M_init_119 (by decide) ?_
  refine j_newI (N := 100) X hB28 (by decide) js_230 (by decide) (by decide) (by decide) (by rw [hRc]; decide) (by rw [hRs]; decide) jd_M_init_121 ?_
  have hB29 : j_Bl 231 I P28 := hB28.le (by decide)
  refine j_putr X jt_M jto_M jn_M jf_M_53 jk_12_20 js_215 (by decide) (Or.inr ⟨rfl, hnm, rfl⟩) rfl rfl rfl jd_M_init_123 ?_
  generalize hP30 : j_wp P28 215 20 (some 230) = P30
  have hB30 : j_Bl 231 I P30 := hP30 ▸ hB29.wp (by decide)
  refine j_aload_n X jd_M_init_126 rfl rfl ?_
  refine j_bipush (v := 100) X jd_M_init_127 (by decide) ?_
  refine j_newI (N := 100) X hB30 (by decide) js_231 (by decide) (by decide) (by decide) (by rw [hRc]; decide) (by rw [hRs]; decide) jd_M_init_129 ?_
  have hB31 : j_Bl 232 I P30 := hB30.le (by decide)
  refine j_putr X jt_M jto_M jn_M jf_M_56 jk_12_21 js_215 (by decide) (Or.inr ⟨rfl, hnm, rfl⟩) rfl rfl rfl jd_M_init_131 ?_
  generalize hP32 : j_wp P30 215 21 (some 231) = P32
  have hB32 : j_Bl 232 I P32 := hP32 ▸ hB31.wp (by decide)
  refine j_aload_n X jd_M_init_134 rfl rfl ?_
  refine j_bipush (v := 100) X jd_M_init_135 (by decide) ?_
  refine j_newI (N := 100) X hB32 (by decide) js_232 (by decide) (by decide) (by decide) (by rw [hRc]; decide) (by rw [hRs]; decide) jd_M_init_137 ?_
  have hB33 : j_Bl 233 I P32 := hB32.le (by decide)
  refine j_putr X jt_M jto_M jn_M jf_M_59 jk_12_22 js_215 (by decide) (Or.inr ⟨rfl, hnm, rfl⟩) rfl rfl rfl jd_M_init_139 ?_
  generalize hP34 : j_wp P32 215 22 (some 232) = P34
  have hB34 : j_Bl 233 I P34 := hP34 ▸ hB33.wp (by decide)
  refine j_aload_n X jd_M_init_142 rfl rfl ?_
  refine j_ldc (v := 48000) X jlc_M_62 jd_M_init_143 ?_
  refine j_newB (N := 48000) X hB34 (by decide) js_233 (by decide) (by decide) (by decide) (by rw [hRc]; decide) (by rw [hRs]; decide) jd_M_init_145 ?_
  have hB35 : j_Bl 234 I P34 := hB34.le (by decide)
  refine j_putr X jt_M jto_M jn_M jf_M_63 jk_12_23 js_215 (by decide) (Or.inr ⟨rfl, hnm, rfl⟩) rfl rfl rfl jd_M_init_147 ?_
  generalize hP36 : j_wp P34 215 23 (some 233) = P36
  have hB36 : j_Bl 234 I P36 := hP36 ▸ hB35.wp (by decide)
  refine j_aload_n X jd_M_init_150 rfl rfl ?_
  refine j_bipush (v := 40) X jd_M_init_151 (by decide) ?_
  refine j_newI (N := 40) X hB36 (by decide) js_234 (by decide) (by decide) (by decide) (by rw [hRc]; decide) (by rw [hRs]; decide) jd_M_init_153 ?_
  have hB37 : j_Bl 235 I P36 := hB36.le (by decide)
  refine j_putr X jt_M jto_M jn_M jf_M_67 jk_12_29 js_215 (by decide) (Or.inr ⟨rfl, hnm, rfl⟩) rfl rfl rfl jd_M_init_155 ?_
  generalize hP38 : j_wp P36 215 29 (some 234) = P38
  have hB38 : j_Bl 235 I P38 := hP38 ▸ hB37.wp (by decide)
  refine j_aload_n X jd_M_init_158 rfl rfl ?_
  refine j_bipush (v := 80) X jd_M_init_159 (by decide) ?_
  refine j_newI (N := 80) X hB38 (by decide) js_235 (by decide) (by decide) (by decide) (by rw [hRc]; decide) (by rw [hRs]; decide) jd_M_init_161 ?_
  have hB39 : j_Bl 236 I P38 := hB38.le (by decide)
  refine j_putr X jt_M jto_M jn_M jf_M_70 jk_12_31 js_215 (by decide) (Or.inr ⟨rfl, hnm, rfl⟩) rfl rfl rfl jd_M_init_163 ?_
  generalize hP40 : j_wp P38 215 31 (some 235) = P40
  have hB40 : j_Bl 236 I P40 := hP40 ▸ hB39.wp (by decide)
  refine j_aload_n X jd_M_init_166 rfl rfl ?_
  refine j_bipush (v := 80) X jd_M_init_167 (by decide) ?_
  refine j_newI (N := 80) X hB40 (by decide) js_236 (by decide) (by decide) (by decide) (by rw [hRc]; decide) (by rw [hRs]; decide) jd_M_init_169 ?_
  have hB41 : j_Bl 237 I P40 := hB40.le (by decide)
  refine j_putr X jt_M jto_M jn_M jf_M_73 jk_12_32 js_215 (by decide) (Or.inr ⟨rfl, hnm, rfl⟩) rfl rfl rfl jd_M_init_171 ?_
  generalize hP42 : j_wp P40 215 32 (some 236) = P42
  have hB42 : j_Bl 237 I P42 := hP42 ▸ hB41.wp (by decide)
  refine j_aload_n X jd_M_init_174 rfl rfl ?_
  refine j_bipush (v := 80) X jd_M_init_175 (by decide) ?_
  refine j_newI (N := 80) X hB42 (by decide) js_237 (by decide) (by decide) (by decide) (by rw [hRc]; decide) (by rw [hRs]; decide) jd_M_init_177 ?_
  have hB43 : j_Bl 238 I P42 := hB42.le (by decide)
  refine j_putr X jt_M jto_M jn_M jf_M_76 jk_12_33 js_215 (by decide) (Or.inr ⟨rfl, hnm, rfl⟩) rfl rfl rfl jd_M_init_179 ?_
  generalize hP44 : j_wp P42 215 33 (some 237) = P44
  have hB44 : j_Bl 238 I P44 := hP44 ▸ hB43.wp (by decide)
  refine j_aload_n X jd_M_init_182 rfl rfl ?_
  refine j_bipush (v := 40) X jd_M_init_183 (by decide) ?_
  refine j_newI (N := 40) X hB44 (by decide) js_238 (by decide) (by decide) (by decide) (by rw [hRc]; decide) (by rw [hRs]; decide) jd_M_init_185 ?_
  have hB45 : j_Bl 239 I P44 := hB44.le (by decide)
  refine j_putr X jt_M jto_M jn_M jf_M_79 jk_12_34 js_215 (by decide) (Or.inr ⟨rfl, hnm, rfl⟩) rfl rfl rfl jd_M_init_187 ?_
  generalize hP46 : j_wp P44 215 34 (some 238) = P46
  have hB46 : j_Bl 239 I P46 := hP46 ▸ hB45.wp (by decide)
  refine j_aload_n X jd_M_init_190 rfl rfl ?_
  refine j_bipush (v := 40) X jd_M_init_191 (by decide) ?_
  refine j_newI (N := 40) X hB46 (by decide) js_239 (by decide) (by decide) (by decide) (by rw [hRc]; decide) (by rw [hRs]; decide) jd_M_init_193 ?_
  have hB47 : j_Bl 240 I P46 := hB46.le (by decide)
  refine j_putr X jt_M jto_M jn_M jf_M_82 jk_12_35 js_215 (by decide) (Or.inr ⟨rfl, hnm, rfl⟩) rfl rfl rfl jd_M_init_195 ?_
  generalize hP48 : j_wp P46 215 35 (some 239) = P48
  have hB48 : j_Bl 240 I P48 := hP48 ▸ hB47.wp (by decide)
  refine j_aload_n X jd_M_init_198 rfl rfl ?_
  refine j_bipush (v := 20) X jd_M_init_199 (by decide) ?_
  refine j_newI (N := 20) X hB48 (by decide) js_240 (by decide) (by decide) (by decide) (by rw [hRc]; decide) (by rw [hRs]; decide) jd_M_init_201 ?_
  have hB49 : j_Bl 241 I P48 := hB48.le (by decide)
  refine j_putr X jt_M jto_M jn_M jf_M_85 jk_12_41 js_215 (by decide) (Or.inr ⟨rfl, hnm, rfl⟩) rfl rfl rfl jd_M_init_203 ?_
  generalize hP50 : j_wp P48 215 41 (some 240) = P50
  have hB50 : j_Bl 241 I P50 := hP50 ▸ hB49.wp (by decide)
  refine j_aload_n X jd_M_init_206 rfl rfl ?_
  refine j_bipush (v := 20) X jd_M_init_207 (by decide) ?_
  refine j_newI (N := 20) X hB50 (by decide) js_241 (by decide) (by decide) (by decide) (by rw [hRc]; decide) (by rw [hRs]; decide) jd_M_init_209 ?_
  have hB51 : j_Bl 242 I P50 := hB50.le (by decide)
  refine j_putr X jt_M jto_M jn_M jf_M_88 jk_12_42 js_215 (by decide) (Or.inr ⟨rfl, hnm, rfl⟩) rfl rfl rfl jd_M_init_211 ?_
  generalize hP52 : j_wp P50 215 42 (some 241) = P52
  have hB52 : j_Bl 242 I P52 := hP52 ▸ hB51.wp (by decide)
  refine j_aload_n X jd_M_init_214 rfl rfl ?_
  refine j_bipush (v := 10) X jd_M_init_215 (by decide) ?_
  refine j_puti X jt_M jto_M jn_M jf_M_91 jk_12_44 js_215 (by decide) (Or.inl rfl) rfl jd_M_init_217 ?_
  generalize hI53 : j_wr I 215 44 10 = I53
  have hB53 : j_Bl 242 I53 P52 := hI53 ▸ hB52.wr (by decide)
  refine j_aload_n X jd_M_init_220 rfl rfl ?_
  refine j_iconst (v := 1) X jd_M_init_221 (by decide) ?_
  refine j_puti X jt_M jto_M jn_M jf_M_95 jk_12_45 js_215 (by decide) (Or.inl rfl) rfl jd_M_init_222 ?_
  generalize hI54 : j_wr I53 215 45 1 = I54
  have hB54 : j_Bl 242 I54 P52 := hI54 ▸ hB53.wr (by decide)
  refine j_aload_n X jd_M_init_225 rfl rfl ?_
  refine j_bipush (v := 60) X jd_M_init_226 (by decide) ?_
  refine j_newI (N := 60) X hB54 (by decide) js_242 (by decide) (by decide) (by decide) (by rw [hRc]; decide) (by rw [hRs]; decide) jd_M_init_228 ?_
  have hB55 : j_Bl 243 I54 P52 := hB54.le (by decide)
  refine j_putr X jt_M jto_M jn_M jf_M_98 jk_12_47 js_215 (by decide) (Or.inr ⟨rfl, hnm, rfl⟩) rfl rfl rfl jd_M_init_230 ?_
  generalize hP56 : j_wp P52 215 47 (some 242) = P56
  have hB56 : j_Bl 243 I54 P56 := hP56 ▸ hB55.wp (by decide)
  refine j_aload_n X jd_M_init_233 rfl rfl ?_
  refine j_bipush (v := 60) X jd_M_init_234 (by decide) ?_
  refine j_newI (N := 60) X hB56 (by decide) js_243 (by decide) (by decide) (by decide) (by rw [hRc]; decide) (by rw [hRs]; decide) jd_M_init_236 ?_
  have hB57 : j_Bl 244 I54 P56 := hB56.le (by decide)
  refine j_putr X jt_M jto_M jn_M jf_M_101 jk_12_48 js_215 (by decide) (Or.inr ⟨rfl, hnm, rfl⟩) rfl rfl rfl jd_M_init_238 ?_
  generalize hP58 : j_wp P56 215 48 (some 243) = P58
  have hB58 : j_Bl 244 I54 P58 := hP58 ▸ hB57.wp (by decide)
  refine j_aload_n X jd_M_init_241 rfl rfl ?_
  refine j_bipush (v := 60) X jd_M_init_242 (by decide) ?_
  refine j_newZ (N := 60) X hB58 (by decide) js_244 (by decide) (by decide) (by decide) (by rw [hRc]; decide) (by rw [hRs]; decide) jd_M_init_244 ?_
  have hB59 : j_Bl 245 I54 P58 := hB58.le (by decide)
  refine j_putr X jt_M jto_M jn_M jf_M_104 jk_12_49 js_215 (by decide) (Or.inr ⟨rfl, hnm, rfl⟩) rfl rfl rfl jd_M_init_246 ?_
  generalize hP60 : j_wp P58 215 49 (some 244) = P60
  have hB60 : j_Bl 245 I54 P60 := hP60 ▸ hB59.wp (by decide)
  refine j_aload_n X jd_M_init_249 rfl rfl ?_
  refine j_bipush (v := 120) X jd_M_init_250 (by decide) ?_
  refine j_newB (N := 120) X hB60 (by decide) js_245 (by decide) (by decide) (by decide) (by rw [hRc]; decide) (by rw [hRs]; decide) jd_M_init_252 ?_
  have hB61 : j_Bl 246 I54 P60 := hB60.le (by decide)
  refine j_putr X jt_M jto_M jn_M jf_M_107 jk_12_50 js_215 (by decide) (Or.inr ⟨rfl, hnm, rfl⟩) rfl rfl rfl jd_M_init_254 ?_
  generalize hP62 : j_wp P60 215 50 (some 245) = P62
  have hB62 : j_Bl 246 I54 P62 := hP62 ▸ hB61.wp (by decide)
  refine j_aload_n X jd_M_init_257 rfl rfl ?_
  refine j_bipush (v := 30) X jd_M_init_258 (by decide) ?_
  refine j_newI (N := 30) X hB62 (by decide) js_246 (by decide) (by decide) (by decide) (by rw [hRc]; decide) (by rw [hRs]; decide) jd_M_init_260 ?_
  have hB63 : j_Bl 247 I54 P62 := hB62.le (by decide)
  refine j_putr X jt_M jto_M jn_M jf_M_110 jk_12_53 js_215 (by decide) (Or.inr ⟨rfl, hnm, rfl⟩) rfl rfl rfl jd_M_init_262 ?_
  generalize hP64 : j_wp P62 215 53 (some 246) = P64
  have hB64 : j_Bl 247 I54 P64 := hP64 ▸ hB63.wp (by decide)
  refine j_aload_n X jd_M_init_265 rfl rfl ?_
  refine j_bipush (v := 30) X jd_M_init_266 (by decide) ?_
  refine j_newI (N := 30) X hB64 (by decide) js_247 (by decide) (by decide) (by decide) (by rw [hRc]; decide) (by rw [hRs]; decide) jd_M_init_268 ?_
  have hB65 : j_Bl 248 I54 P64 := hB64.le (by decide)
  refine j_putr X jt_M jto_M jn_M jf_M_113 jk_12_54 js_215 (by decide) (Or.inr ⟨rfl, hnm, rfl⟩) rfl rfl rfl jd_M_init_270 ?_
  generalize hP66 : j_wp P64 215 54 (some 247) = P66
  have hB66 : j_Bl 248 I54 P66 := hP66 ▸ hB65.wp (by decide)
  refine j_aload_n X jd_M_init_273 rfl rfl ?_
  refine j_bipush (v := 30) X jd_M_init_274 (by decide) ?_
  refine j_newI (N := 30) X hB66 (by decide) js_248 (by decide) (by decide) (by decide) (by rw [hRc]; decide) (by rw [hRs]; decide) jd_M_init_276 ?_
  have hB67 : j_Bl 249 I54 P66 := hB66.le (by decide)
  refine j_putr X jt_M jto_M jn_M jf_M_116 jk_12_55 js_215 (by decide) (Or.inr ⟨rfl, hnm, rfl⟩) rfl rfl rfl jd_M_init_278 ?_
  generalize hP68 : j_wp P66 215 55 (some 248) = P68
  have hB68 : j_Bl 249 I54 P68 := hP68 ▸ hB67.wp (by decide)
  refine j_aload_n X jd_M_init_281 rfl rfl ?_
  refine j_bipush (v := 30) X jd_M_init_282 (by decide) ?_
  refine j_newI (N := 30) X hB68 (by decide) js_249 (by decide) (by decide) (by decide) (by rw [hRc]; decide) (by rw [hRs]; decide) jd_M_init_284 ?_
  have hB69 : j_Bl 250 I54 P68 := hB68.le (by decide)
  refine j_putr X jt_M jto_M jn_M jf_M_119 jk_12_56 js_215 (by decide) (Or.inr ⟨rfl, hnm, rfl⟩) rfl rfl rfl jd_M_init_286 ?_
  generalize hP70 : j_wp P68 215 56 (some 249) = P70
  have hB70 : j_Bl 250 I54 P70 := hP70 ▸ hB69.wp (by decide)
  refine j_aload_n X jd_M_init_289 rfl rfl ?_
  refine j_sipush (v := 3900) X jd_M_init_290 (by decide) ?_
  refine j_newI (N := 3900) X hB70 (by decide) js_250 (by decide) (by decide) (by decide) (by rw [hRc]; decide) (by rw [hRs]; decide) jd_M_init_293 ?_
  have hB71 : j_Bl 251 I54 P70 := hB70.le (by decide)
  refine j_putr X jt_M jto_M jn_M jf_M_122 jk_12_57 js_215 (by decide) (Or.inr ⟨rfl, hnm, rfl⟩) rfl rfl rfl jd_M_init_295 ?_
  generalize hP72 : j_wp P70 215 57 (some 250) = P72
  have hB72 : j_Bl 251 I54 P72 := hP72 ▸ hB71.wp (by decide)
  refine j_aload_n X jd_M_init_298 rfl rfl ?_
  refine j_sipush (v := 3900) X jd_M_init_299 (by decide) ?_
  refine j_newI (N := 3900) X hB72 (by decide) js_251 (by decide) (by decide) (by decide) (by rw [hRc]; decide) (by rw [hRs]; decide) jd_M_init_302 ?_
  have hB73 : j_Bl 252 I54 P72 := hB72.le (by decide)
  refine j_putr X jt_M jto_M jn_M jf_M_125 jk_12_58 js_215 (by decide) (Or.inr ⟨rfl, hnm, rfl⟩) rfl rfl rfl jd_M_init_304 ?_
  generalize hP74 : j_wp P72 215 58 (some 251) = P74
  have hB74 : j_Bl 252 I54 P74 := hP74 ▸ hB73.wp (by decide)
  refine j_aload_n X jd_M_init_307 rfl rfl ?_
  refine j_sipush (v := 130) X jd_M_init_308 (by decide) ?_
  refine j_newI (N := 130) X hB74 (by decide) js_252 (by decide) (by decide) (by decide) (by rw [hRc]; decide) (by rw [hRs]; decide) jd_M_init_311 ?_
  have hB75 : j_Bl 253 I54 P74 := hB74.le (by decide)
  refine j_putr X jt_M jto_M jn_M jf_M_128 jk_12_59 js_215 (by decide) (Or.inr ⟨rfl, hnm, rfl⟩) rfl rfl rfl jd_M_init_313 ?_
  generalize hP76 : j_wp P74 215 59 (some 252) = P76
  have hB76 : j_Bl 253 I54 P76 := hP76 ▸ hB75.wp (by decide)
  refine j_aload_n X jd_M_init_316 rfl rfl ?_
  refine j_sipush (v := 128) X jd_M_init_317 (by decide) ?_
  refine j_newI (N := 128) X hB76 (by decide) js_253 (by decide) (by decide) (by decide) (by rw [hRc]; decide) (by rw [hRs]; decide) jd_M_init_320 ?_
  have hB77 : j_Bl 254 I54 P76 := hB76.le (by decide)
  refine j_putr X jt_M jto_M jn_M jf_M_131 jk_12_63 js_215 (by decide) (Or.inr ⟨rfl, hnm, rfl⟩) rfl rfl rfl jd_M_init_322 ?_
  generalize hP78 : j_wp P76 215 63 (some 253) = P78
  have hB78 : j_Bl 254 I54 P78 := hP78 ▸ hB77.wp (by decide)
  refine j_aload_n X jd_M_init_325 rfl rfl ?_
  refine j_sipush (v := 130) X jd_M_init_326 (by decide) ?_
  refine j_newI (N := 130) X hB78 (by decide) js_254 (by decide) (by decide) (by decide) (by rw [hRc]; decide) (by rw [hRs]; decide) jd_M_init_329 ?_
  have hB79 : j_Bl 255 I54 P78 := hB78.le (by decide)
  refine j_putr X jt_M jto_M jn_M jf_M_134 jk_12_64 js_215 (by decide) (Or.inr ⟨rfl, hnm, rfl⟩) rfl rfl rfl jd_M_init_331 ?_
  generalize hP80 : j_wp P78 215 64 (some 254) = P80
  have hB80 : j_Bl 255 I54 P80 := hP80 ▸ hB79.wp (by decide)
  refine j_aload_n X jd_M_init_334 rfl rfl ?_
  refine j_sipush (v := 200) X jd_M_init_335 (by decide) ?_
  refine j_newI (N := 200) X hB80 (by decide) js_255 (by decide) (by decide) (by decide) (by rw [hRc]; decide) (by rw [hRs]; decide) jd_M_init_338 ?_
  have hB81 : j_Bl 256 I54 P80 := hB80.le (by decide)
  refine j_putr X jt_M jto_M jn_M jf_M_137 jk_12_65 js_215 (by decide) (Or.inr ⟨rfl, hnm, rfl⟩) rfl rfl rfl jd_M_init_340 ?_
  generalize hP82 : j_wp P80 215 65 (some 255) = P82
  have hB82 : j_Bl 256 I54 P82 := hP82 ▸ hB81.wp (by decide)
  refine j_aload_n X jd_M_init_343 rfl rfl ?_
  refine j_sipush (v := 200) X jd_M_init_344 (by decide) ?_
  refine j_newI (N := 200) X hB82 (by decide) js_256 (by decide) (by decide) (by decide) (by rw [hRc]; decide) (by rw [hRs]; decide) jd_M_init_347 ?_
  have hB83 : j_Bl 257 I54 P82 := hB82.le (by decide)
  refine j_putr X jt_M jto_M jn_M jf_M_140 jk_12_66 js_215 (by decide) (Or.inr ⟨rfl, hnm, rfl⟩) rfl rfl rfl jd_M_init_349 ?_
  generalize hP84 : j_wp P82 215 66 (some 256) = P84
  have hB84 : j_Bl 257 I54 P84 := hP84 ▸ hB83.wp (by decide)
  refine j_aload_n X jd_M_init_352 rfl rfl ?_
  refine j_sipush (v := 200) X jd_M_init_353 (by decide) ?_
  refine j_newI (N := 200) X hB84 (by decide) js_257 (by decide) (by decide) (by decide) (by rw [hRc]; decide) (by rw [hRs]; decide) jd_M_init_356 ?_
  have hB85 : j_Bl 258 I54 P84 := hB84.le (by decide)
  refine j_putr X jt_M jto_M jn_M jf_M_143 jk_12_67 js_215 (by decide) (Or.inr ⟨rfl, hnm, rfl⟩) rfl rfl rfl jd_M_init_358 ?_
  generalize hP86 : j_wp P84 215 67 (some 257) = P86
  have hB86 : j_Bl 258 I54 P86 := hP86 ▸ hB85.wp (by decide)
  refine j_aload_n X jd_M_init_361 rfl rfl ?_
  refine j_bipush (v := 20) X jd_M_init_362 (by decide) ?_
  refine j_newI (N := 20) X hB86 (by decide) js_258 (by decide) (by decide) (by decide) (by rw [hRc]; decide) (by rw [hRs]; decide) jd_M_init_364 ?_
  have hB87 : j_Bl 259 I54 P86 := hB86.le (by decide)
  refine j_putr X jt_M jto_M jn_M jf_M_146 jk_12_69 js_215 (by decide) (Or.inr ⟨rfl, hnm, rfl⟩) rfl rfl rfl jd_M_init_366 ?_
  generalize hP88 : j_wp P86 215 69 (some 258) = P88
  have hB88 : j_Bl 259 I54 P88 := hP88 ▸ hB87.wp (by decide)
  refine j_aload_n X jd_M_init_369 rfl rfl ?_
  refine j_bipush (v := 20) X jd_M_init_370 (by decide) ?_
  refine j_newI (N := 20) X hB88 (by decide) js_259 (by decide) (by decide) (by decide) (by rw [hRc]; decide) (by rw [hRs]; decide) jd_M_init_372 ?_
  have hB89 : j_Bl 260 I54 P88 := hB88.le (by decide)
  refine j_putr X jt_M jto_M jn_M jf_M_149 jk_12_70 js_215 (by decide) (Or.inr ⟨rfl, hnm, rfl⟩) rfl rfl rfl jd_M_init_374 ?_
  generalize hP90 : j_wp P88 215 70 (some 259) = P90
  have hB90 : j_Bl 260 I54 P90 := hP90 ▸ hB89.wp (by decide)
  refine j_vretC X rfl ⟨hB90, fun c hc => ?_, ?_, fun c h1 h2 => ?_⟩ jd_M_init_377
  · have hne : c ≠ 215 := by omega
    subst hI53 hI54 hP2 hP4 hP6 hP8 hP10 hP12 hP14 hP16 hP18 hP20 hP22 hP24 hP26 hP28 hP30 hP32 hP34 hP36 hP38 hP40 hP42 hP44 hP46 hP48 hP50 hP52 hP56 hP58 hP60 hP62 hP64 hP66 hP68 hP70 hP72 hP74 hP76 hP78 hP80 hP82 hP84 hP86 hP88 hP90
    exact ⟨by simp [j_wr_cell _ _ _ hne], by simp [j_wp_cell _ _ _ hne]⟩
  · subst hI53 hI54 hP2 hP4 hP6 hP8 hP10 hP12 hP14 hP16 hP18 hP20 hP22 hP24 hP26 hP28 hP30 hP32 hP34 hP36 hP38 hP40 hP42 hP44 hP46 hP48 hP50 hP52 hP56 hP58 hP60 hP62 hP64 hP66 hP68 hP70 hP72 hP74 hP76 hP78 hP80 hP82 hP84 hP86 hP88 hP90
    refine ⟨fun q hq h1 h2 => ?_, fun q hq h1 h2 i hi => ?_⟩
    · have e : j_pfL.filter (fun q => decide (215 ≤ q.1 ∧ q.1 < 260)) = [(215, 4, 216), (215, 5, 217), (215, 6, 218), (215, 8, 219), (215, 9, 220), (215, 10, 221), (215, 11, 222), (215, 13, 223), (215, 14, 224), (215, 15, 225), (215, 16, 226), (215, 17, 227), (215, 18, 228), (215, 19, 229), (215, 20, 230), (215, 21, 231), (215, 22, 232), (215, 23, 233), (215, 29, 234), (215, 31, 235), (215, 32, 236), (215, 33, 237), (215, 34, 238), (215, 35, 239), (215, 41, 240), (215, 42, 241), (215, 47, 242), (215, 48, 243), (215, 49, 244), (215, 50, 245), (215, 53, 246), (215, 54, 247), (215, 55, 248), (215, 56, 249), (215, 57, 250), (215, 58, 251), (215, 59, 252), (215, 63, 253), (215, 64, 254), (215, 65, 255), (215, 66, 256), (215, 67, 257), (215, 69, 258), (215, 70, 259)] := by decide
      have hm : q ∈ [((215, 4, 216) : Nat × Nat × Nat), ((215, 5, 217) : Nat × Nat × Nat), ((215, 6, 218) : Nat × Nat × Nat), ((215, 8, 219) : Nat × Nat × Nat), ((215, 9, 220) : Nat × Nat × Nat), ((215, 10, 221) : Nat × Nat × Nat), ((215, 11, 222) : Nat × Nat × Nat), ((215, 13, 223) : Nat × Nat × Nat), ((215, 14, 224) : Nat × Nat × Nat), ((215, 15, 225) : Nat × Nat × Nat), ((215, 16, 226) : Nat × Nat × Nat), ((215, 17, 227) : Nat × Nat × Nat), ((215, 18, 228) : Nat × Nat × Nat), ((215, 19, 229) : Nat × Nat × Nat), ((215, 20, 230) : Nat × Nat × Nat), ((215, 21, 231) : Nat × Nat × Nat), ((215, 22, 232) : Nat × Nat × Nat), ((215, 23, 233) : Nat × Nat × Nat), ((215, 29, 234) : Nat × Nat × Nat), ((215, 31, 235) : Nat × Nat × Nat), ((215, 32, 236) : Nat × Nat × Nat), ((215, 33, 237) : Nat × Nat × Nat), ((215, 34, 238) : Nat × Nat × Nat), ((215, 35, 239) : Nat × Nat × Nat), ((215, 41, 240) : Nat × Nat × Nat), ((215, 42, 241) : Nat × Nat × Nat), ((215, 47, 242) : Nat × Nat × Nat), ((215, 48, 243) : Nat × Nat × Nat), ((215, 49, 244) : Nat × Nat × Nat), ((215, 50, 245) : Nat × Nat × Nat), ((215, 53, 246) : Nat × Nat × Nat), ((215, 54, 247) : Nat × Nat × Nat), ((215, 55, 248) : Nat × Nat × Nat), ((215, 56, 249) : Nat × Nat × Nat), ((215, 57, 250) : Nat × Nat × Nat), ((215, 58, 251) : Nat × Nat × Nat), ((215, 59, 252) : Nat × Nat × Nat), ((215, 63, 253) : Nat × Nat × Nat), ((215, 64, 254) : Nat × Nat × Nat), ((215, 65, 255) : Nat × Nat × Nat), ((215, 66, 256) : Nat × Nat × Nat), ((215, 67, 257) : Nat × Nat × Nat), ((215, 69, 258) : Nat × Nat × Nat), ((215, 70, 259) : Nat × Nat × Nat)] := by rw [← e]; exact List.mem_filter.mpr ⟨hq, decide_eq_true ⟨h1, h2⟩⟩
      simp only [List.mem_cons, List.not_mem_nil, or_false] at hm
      rcases hm with rfl | rfl | rfl | rfl | rfl | rfl | rfl | rfl | rfl | rfl | rfl | rfl | rfl | rfl | rfl | rfl | rfl | rfl | rfl | rfl | rfl | rfl | rfl | rfl | rfl | rfl | rfl | rfl | rfl | rfl | rfl | rfl | rfl | rfl | rfl | rfl | rfl | rfl | rfl | rfl | rfl | rfl | rfl | rfl <;> simp [j_wp, j_wq]
    · have e : j_paL.filter (fun q => decide (215 ≤ q.1 ∧ q.1 < 260)) = [] := by decide
      have hm : q ∈ ([] : List (Nat × Nat × Nat)) := by rw [← e]; exact List.mem_filter.mpr ⟨hq, decide_eq_true ⟨h1, h2⟩⟩
      cases hm
  · by_cases hc : c = 215
    · have h0 := hBt.1 215 (Nat.le_refl _)
      subst hc
      subst hI53 hI54 hP2 hP4 hP6 hP8 hP10 hP12 hP14 hP16 hP18 hP20 hP22 hP24 hP26 hP28 hP30 hP32 hP34 hP36 hP38 hP40 hP42 hP44 hP46 hP48 hP50 hP52 hP56 hP58 hP60 hP62 hP64 hP66 hP68 hP70 hP72 hP74 hP76 hP78 hP80 hP82 hP84 hP86 hP88 hP90
      funext k
      simp only [j_wr, true_and, h0]
      simp [jIf, jI0]
      try (repeat' split)
      all_goals (first | rfl | omega | simp_all)
    · subst hI53 hI54 hP2 hP4 hP6 hP8 hP10 hP12 hP14 hP16 hP18 hP20 hP22 hP24 hP26 hP28 hP30 hP32 hP34 hP36 hP38 hP40 hP42 hP44 hP46 hP48 hP50 hP52 hP56 hP58 hP60 hP62 hP64 hP66 hP68 hP70 hP72 hP74 hP76 hP78 hP80 hP82 hP84 hP86 hP88 hP90
      refine Eq.trans ?_ ((hBt.1 c h1).trans (jIf_plain (by omega)).symm)
      simp [j_wr_cell _ _ _ hc]
