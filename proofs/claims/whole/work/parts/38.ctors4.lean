def j_St (n : Nat) (I : j_M) (P : j_R) : Prop := j_Bl n I P ∧ j_Fx 1 n P ∧ (∀ c, 1 ≤ c → c < n → I c = jIf c) ∧ I 0 = jI0 0
theorem j_St.step {t n' : Nat} {I I' : j_M} {P P' : j_R} (h : j_St t I P) (hcf : j_CF t n' I P I' P') (ht : 1 ≤ t) : j_St n' I' P' :=
  ⟨hcf.1, (h.2.1.keep (fun c h1 h2 => (hcf.2.1 c h2).2)).join hcf.2.2.1, fun c h1 h2 => (Nat.lt_or_ge c t).elim (fun h3 => (hcf.2.1 c h3).1.trans (h.2.2.1 c h1 h3)) (fun h3 => hcf.2.2.2 c h3 h2), (hcf.2.1 0 (by omega)).1.trans h.2.2.2⟩
theorem j_St.wp0 {n k : Nat} {v : Option Nat} {I : j_M} {P : j_R} (h : j_St n I P) (hn : 0 < n) : j_St n I (j_wp P 0 k v) :=
  ⟨h.1.wp hn, h.2.1.keep (fun c h1 h2 => j_wp_cell _ _ _ (by omega)), h.2.2⟩
theorem j_St.wr0 {n k : Nat} {I : j_M} {P : j_R} (h : j_St n I P) (hn : 0 < n) : j_St n (j_wr I 0 k 0) P :=
  ⟨h.1.wr hn, h.2.1, fun c h1 h2 => (j_wr_cell _ _ _ (by omega)).trans (h.2.2.1 c h1 h2), by
    funext y
    rw [j_wr_at, h.2.2.2]
    by_cases e : y = k
    · rw [if_pos ⟨rfl, e⟩]; simp [jI0]
    · rw [if_neg (fun z => e z.2)]⟩
theorem j_St.alloc {n : Nat} {I : j_M} {P : j_R} (h : j_St n I P) (hp : jIf n = jI0 n) (h1 : j_pfL.all (fun q => decide (q.1 < n ∨ n + 1 ≤ q.1)) = true) (h2 : j_paL.all (fun q => decide (q.1 < n ∨ n + 1 ≤ q.1)) = true) : j_St (n + 1) I P :=
  ⟨h.1.le (by omega), h.2.1.join (j_Fx.nil h1 h2), fun c h1 h2 => (Nat.lt_or_ge c n).elim (fun h3 => h.2.2.1 c h1 h3) (fun h3 => by
    obtain rfl : c = n := by omega
    rw [h.1.1 c (Nat.le_refl c)]; exact hp.symm), h.2.2.2⟩
theorem jd_G_init_0 : decode jb_G_init 0 = .ok (.aload_n 0, 1) := by decide +kernel
theorem jd_G_init_1 : decode jb_G_init 1 = .ok (.invokespecial 1, 3) := by decide +kernel
theorem jd_G_init_4 : decode jb_G_init 4 = .ok (.aload_n 0, 1) := by decide +kernel
theorem jd_G_init_5 : decode jb_G_init 5 = .ok (.new 7, 3) := by decide +kernel
theorem jd_G_init_8 : decode jb_G_init 8 = .ok (.dup, 1) := by decide +kernel
theorem jd_G_init_9 : decode jb_G_init 9 = .ok (.invokespecial 9, 3) := by decide +kernel
theorem jd_G_init_12 : decode jb_G_init 12 = .ok (.putfield 10, 3) := by decide +kernel
theorem jd_G_init_15 : decode jb_G_init 15 = .ok (.aload_n 0, 1) := by decide +kernel
theorem jd_G_init_16 : decode jb_G_init 16 = .ok (.new 16, 3) := by decide +kernel
theorem jd_G_init_19 : decode jb_G_init 19 = .ok (.dup, 1) := by decide +kernel
theorem jd_G_init_20 : decode jb_G_init 20 = .ok (.invokespecial 18, 3) := by decide +kernel
theorem jd_G_init_23 : decode jb_G_init 23 = .ok (.putfield 19, 3) := by decide +kernel
theorem jd_G_init_26 : decode jb_G_init 26 = .ok (.aload_n 0, 1) := by decide +kernel
theorem jd_G_init_27 : decode jb_G_init 27 = .ok (.sipush 300, 3) := by decide +kernel
theorem jd_G_init_30 : decode jb_G_init 30 = .ok (.newarray .boolean, 2) := by decide +kernel
theorem jd_G_init_32 : decode jb_G_init 32 = .ok (.putfield 23, 3) := by decide +kernel
theorem jd_G_init_35 : decode jb_G_init 35 = .ok (.aload_n 0, 1) := by decide +kernel
theorem jd_G_init_36 : decode jb_G_init 36 = .ok (.new 27, 3) := by decide +kernel
theorem jd_G_init_39 : decode jb_G_init 39 = .ok (.dup, 1) := by decide +kernel
theorem jd_G_init_40 : decode jb_G_init 40 = .ok (.invokespecial 29, 3) := by decide +kernel
theorem jd_G_init_43 : decode jb_G_init 43 = .ok (.putfield 30, 3) := by decide +kernel
theorem jd_G_init_46 : decode jb_G_init 46 = .ok (.aload_n 0, 1) := by decide +kernel
theorem jd_G_init_47 : decode jb_G_init 47 = .ok (.new 34, 3) := by decide +kernel
theorem jd_G_init_50 : decode jb_G_init 50 = .ok (.dup, 1) := by decide +kernel
theorem jd_G_init_51 : decode jb_G_init 51 = .ok (.invokespecial 36, 3) := by decide +kernel
theorem jd_G_init_54 : decode jb_G_init 54 = .ok (.putfield 37, 3) := by decide +kernel
theorem jd_G_init_57 : decode jb_G_init 57 = .ok (.aload_n 0, 1) := by decide +kernel
theorem jd_G_init_58 : decode jb_G_init 58 = .ok (.new 41, 3) := by decide +kernel
theorem jd_G_init_61 : decode jb_G_init 61 = .ok (.dup, 1) := by decide +kernel
theorem jd_G_init_62 : decode jb_G_init 62 = .ok (.invokespecial 43, 3) := by decide +kernel
theorem jd_G_init_65 : decode jb_G_init 65 = .ok (.putfield 44, 3) := by decide +kernel
theorem jd_G_init_68 : decode jb_G_init 68 = .ok (.aload_n 0, 1) := by decide +kernel
theorem jd_G_init_69 : decode jb_G_init 69 = .ok (.new 48, 3) := by decide +kernel
theorem jd_G_init_72 : decode jb_G_init 72 = .ok (.dup, 1) := by decide +kernel
theorem jd_G_init_73 : decode jb_G_init 73 = .ok (.invokespecial 50, 3) := by decide +kernel
theorem jd_G_init_76 : decode jb_G_init 76 = .ok (.putfield 51, 3) := by decide +kernel
theorem jd_G_init_79 : decode jb_G_init 79 = .ok (.aload_n 0, 1) := by decide +kernel
theorem jd_G_init_80 : decode jb_G_init 80 = .ok (.new 55, 3) := by decide +kernel
theorem jd_G_init_83 : decode jb_G_init 83 = .ok (.dup, 1) := by decide +kernel
theorem jd_G_init_84 : decode jb_G_init 84 = .ok (.invokespecial 57, 3) := by decide +kernel
theorem jd_G_init_87 : decode jb_G_init 87 = .ok (.putfield 58, 3) := by decide +kernel
theorem jd_G_init_90 : decode jb_G_init 90 = .ok (.aload_n 0, 1) := by decide +kernel
theorem jd_G_init_91 : decode jb_G_init 91 = .ok (.new 62, 3) := by decide +kernel
theorem jd_G_init_94 : decode jb_G_init 94 = .ok (.dup, 1) := by decide +kernel
theorem jd_G_init_95 : decode jb_G_init 95 = .ok (.invokespecial 64, 3) := by decide +kernel
theorem jd_G_init_98 : decode jb_G_init 98 = .ok (.putfield 65, 3) := by decide +kernel
theorem jd_G_init_101 : decode jb_G_init 101 = .ok (.aload_n 0, 1) := by decide +kernel
theorem jd_G_init_102 : decode jb_G_init 102 = .ok (.new 69, 3) := by decide +kernel
theorem jd_G_init_105 : decode jb_G_init 105 = .ok (.dup, 1) := by decide +kernel
theorem jd_G_init_106 : decode jb_G_init 106 = .ok (.invokespecial 71, 3) := by decide +kernel
theorem jd_G_init_109 : decode jb_G_init 109 = .ok (.putfield 72, 3) := by decide +kernel
theorem jd_G_init_112 : decode jb_G_init 112 = .ok (.aload_n 0, 1) := by decide +kernel
theorem jd_G_init_113 : decode jb_G_init 113 = .ok (.iconst 0, 1) := by decide +kernel
theorem jd_G_init_114 : decode jb_G_init 114 = .ok (.putfield 76, 3) := by decide +kernel
theorem jd_G_init_117 : decode jb_G_init 117 = .ok (.aload_n 0, 1) := by decide +kernel
theorem jd_G_init_118 : decode jb_G_init 118 = .ok (.iconst 0, 1) := by decide +kernel
theorem jd_G_init_119 : decode jb_G_init 119 = .ok (.putfield 80, 3) := by decide +kernel
theorem jd_G_init_122 : decode jb_G_init 122 = .ok (.aload_n 0, 1) := by decide +kernel
theorem jd_G_init_123 : decode jb_G_init 123 = .ok (.iconst 0, 1) := by decide +kernel
theorem jd_G_init_124 : decode jb_G_init 124 = .ok (.putfield 83, 3) := by decide +kernel
theorem jd_G_init_127 : decode jb_G_init 127 = .ok (.aload_n 0, 1) := by decide +kernel
theorem jd_G_init_128 : decode jb_G_init 128 = .ok (.iconst 0, 1) := by decide +kernel
theorem jd_G_init_129 : decode jb_G_init 129 = .ok (.putfield 86, 3) := by decide +kernel
theorem jd_G_init_132 : decode jb_G_init 132 = .ok (.aload_n 0, 1) := by decide +kernel
theorem jd_G_init_133 : decode jb_G_init 133 = .ok (.iconst 0, 1) := by decide +kernel
theorem jd_G_init_134 : decode jb_G_init 134 = .ok (.putfield 89, 3) := by decide +kernel
theorem jd_G_init_137 : decode jb_G_init 137 = .ok (.return_, 1) := by decide +kernel
theorem jhi_G_init : jy_G_init.cls ≠ "java/lang/invoke/MethodHandle" ∧ jy_G_init.cls ≠ "java/lang/invoke/VarHandle" ∧ (parseMethodDescriptor jy_G_init.desc).map (fun d => d.parameters.length) = some 0 := by decide +kernel
set_option maxRecDepth 100000 in
set_option maxHeartbeats 4000000 in
theorem K_G_init (l : Launch) (g : j_G) (b : Nat) : j_MetC l g b 3 jy_G_init jb_G_init 1 0 1 215 214 13318 [.ref (b + 0)] := by
  refine j_enterC (plainFor_of_name (by decide)) (Nat.le_of_ble_eq_true rfl) [some (.ref (b + 0))] rfl ?_
  intro I P hBt p e R s m args below meth c X0 hO hnm hRc hRs
  have X : j_X p R s m args meth c g b 3 jb_G_init 1 "PleasureGarden" none := X0
  clear X0
  have hnm : meth.name = "<init>" := hnm
  have hB0 : j_Bl 1 I P := hBt.le (by omega)
  have hS0 : j_St 1 I P := ⟨hB0, j_Fx.nil (by decide) (by decide), fun c h1 h2 => absurd h2 (by omega), hBt.1 0 (by omega)⟩
  have hQ0 : P 0 = fun _ => none := hBt.2 0 (by omega)
  refine j_aload_n X jd_G_init_0 rfl rfl ?_
  refine j_objInit (st := []) X jlm_G_1 (by decide) (Nat.le_of_ble_eq_true rfl) jd_G_init_1 ?_
  refine j_aload_n X jd_G_init_4 rfl rfl ?_
  refine j_new X hB0 jt_Gr jto_Gr ji_Gr jc_Gr js_1 jlk_G_7 jqk_Gr jqn_Gr (by decide) (by rw [hRc]; decide) (by rw [hRs]; decide) jd_G_init_5 ?_
  refine j_dup X jd_G_init_8 rfl ?_
  refine j_callI (As := []) (st := [.ref (b + 1), .ref (b + 0)]) (c0 := 1) (t := 1) X hO hB0 ⟨jqc_Gr_init, jqi_Gr_init, jqn_Gr⟩ jlm_G_9 rfl jhi_Gr_init rfl (by decide) (by decide) (Nat.le_of_ble_eq_true rfl) ⟨by rw [hRc]; decide, by rw [hRs]; decide⟩ (K_Gr_init l g b) jd_G_init_9 rfl (fun I1 P1 hcf1 => ?_)
  have hB1 : j_Bl 38 I1 P1 := hcf1.1
  have hS1 : j_St 38 I1 P1 := hS0.step hcf1 (by decide)
  have hQ1 : P1 0 = (fun _ => none) := (hcf1.2.1 0 (by decide)).2.trans hQ0
  refine j_putr X jt_G jto_G jn_G jf_G_10 jk_0_0 js_0 (by decide) (Or.inr ⟨rfl, hnm, rfl⟩) rfl rfl rfl jd_G_init_12 ?_
  generalize hP2 : j_wp P1 0 0 (some 1) = P2
  have hB2 : j_Bl 38 I1 P2 := hP2 ▸ hB1.wp (by decide)
  have hS2 : j_St 38 I1 P2 := hP2 ▸ hS1.wp0 (by decide)
  have hQ2 : P2 0 = (fun y => if y = 0 then some 1 else (fun _ => none) y) := by rw [← hP2]; funext y; simp [j_wp, hQ1]
  refine j_aload_n X jd_G_init_15 rfl rfl ?_
  refine j_new X hB2 jt_Sk jto_Sk ji_Sk jc_Sk js_38 jlk_G_16 jqk_Sk jqn_Sk (by decide) (by rw [hRc]; decide) (by rw [hRs]; decide) jd_G_init_16 ?_
  refine j_dup X jd_G_init_19 rfl ?_
  refine j_callIN (As := []) (st := [.ref (b + 38), .ref (b + 0)]) (c0 := 38) (t := 38) X hO hB2 ⟨jqc_Sk_init, jqi_Sk_init, jqn_Sk⟩ (by decide +kernel) rfl jhi_Sk_init rfl (by decide) (by decide) (Nat.le_of_ble_eq_true rfl) ⟨by rw [hRc]; decide, by rw [hRs]; decide⟩ (K_Sk_init l g b) jd_G_init_20 rfl (fun I3 P3 hcf3 => ?_)
  have hB3 : j_Bl 40 I3 P3 := hcf3.1
  have hS3 : j_St 40 I3 P3 := hS2.step hcf3 (by decide)
  have hQ3 : P3 0 = (fun y => if y = 0 then some 1 else (fun _ => none) y) := (hcf3.2.1 0 (by decide)).2.trans hQ2
  refine j_putr X jt_G jto_G jn_G jf_G_19 jk_0_1 js_0 (by decide) (Or.inr ⟨rfl, hnm, rfl⟩) rfl rfl rfl jd_G_init_23 ?_
  generalize hP4 : j_wp P3 0 1 (some 38) = P4
  have hB4 : j_Bl 40 I3 P4 := hP4 ▸ hB3.wp (by decide)
  have hS4 : j_St 40 I3 P4 := hP4 ▸ hS3.wp0 (by decide)
  have hQ4 : P4 0 = (fun y => if y = 1 then some 38 else (fun y => if y = 0 then some 1 else (fun _ => none) y) y) := by rw [← hP4]; funext y; simp [j_wp, hQ3]
  refine j_aload_n X jd_G_init_26 rfl rfl ?_
  refine j_sipush (v := 300) X jd_G_init_27 (by decide) ?_
  refine j_newZ (N := 300) X hB4 (by decide) js_40 (by decide) (by decide) (by decide) (by rw [hRc]; decide) (by rw [hRs]; decide) jd_G_init_30 ?_
  have hB5 : j_Bl 41 I3 P4 := hB4.le (by decide)
  have hS5 : j_St 41 I3 P4 := hS4.alloc (jIf_plain (by decide)) (by decide) (by decide)
  refine j_putr X jt_G jto_G jn_G jf_G_23 jk_0_2 js_0 (by decide) (Or.inr ⟨rfl, hnm, rfl⟩) rfl rfl rfl jd_G_init_32 ?_
  generalize hP6 : j_wp P4 0 2 (some 40) = P6
  have hB6 : j_Bl 41 I3 P6 := hP6 ▸ hB5.wp (by decide)
  have hS6 : j_St 41 I3 P6 := hP6 ▸ hS5.wp0 (by decide)
  have hQ6 : P6 0 = (fun y => if y = 2 then some 40 else (fun y => if y = 1 then some 38 else (fun y => if y = 0 then some 1 else (fun _ => none) y) y) y) := by rw [← hP6]; funext y; simp [j_wp, hQ4]
  refine j_aload_n X jd_G_init_35 rfl rfl ?_
  refine j_new X hB6 jt_Gu jto_Gu ji_Gu jc_Gu js_41 jlk_G_27 jqk_Gu jqn_Gu (by decide) (by rw [hRc]; decide) (by rw [hRs]; decide) jd_G_init_36 ?_
  refine j_dup X jd_G_init_39 rfl ?_
  refine j_callI (As := []) (st := [.ref (b + 41), .ref (b + 0)]) (c0 := 41) (t := 41) X hO hB6 ⟨jqc_Gu_init, jqi_Gu_init, jqn_Gu⟩ jlm_G_29 rfl jhi_Gu_init rfl (by decide) (by decide) (Nat.le_of_ble_eq_true rfl) ⟨by rw [hRc]; decide, by rw [hRs]; decide⟩ (K_Gu_init l g b) jd_G_init_40 rfl (fun I7 P7 hcf7 => ?_)
  have hB7 : j_Bl 143 I7 P7 := hcf7.1
  have hS7 : j_St 143 I7 P7 := hS6.step hcf7 (by decide)
  have hQ7 : P7 0 = (fun y => if y = 2 then some 40 else (fun y => if y = 1 then some 38 else (fun y => if y = 0 then some 1 else (fun _ => none) y) y) y) := (hcf7.2.1 0 (by decide)).2.trans hQ6
  refine j_putr X jt_G jto_G jn_G jf_G_30 jk_0_3 js_0 (by decide) (Or.inr ⟨rfl, hnm, rfl⟩) rfl rfl rfl jd_G_init_43 ?_
  generalize hP8 : j_wp P7 0 3 (some 41) = P8
  have hB8 : j_Bl 143 I7 P8 := hP8 ▸ hB7.wp (by decide)
  have hS8 : j_St 143 I7 P8 := hP8 ▸ hS7.wp0 (by decide)
  have hQ8 : P8 0 = (fun y => if y = 3 then some 41 else (fun y => if y = 2 then some 40 else (fun y => if y = 1 then some 38 else (fun y => if y = 0 then some 1 else (fun _ => none) y) y) y) y) := by rw [← hP8]; funext y; simp [j_wp, hQ7]
  refine j_aload_n X jd_G_init_46 rfl rfl ?_
  refine j_new X hB8 jt_Wa jto_Wa ji_Wa jc_Wa js_143 jlk_G_34 jqk_Wa jqn_Wa (by decide) (by rw [hRc]; decide) (by rw [hRs]; decide) jd_G_init_47 ?_
  refine j_dup X jd_G_init_50 rfl ?_
  refine j_callIN (As := []) (st := [.ref (b + 143), .ref (b + 0)]) (c0 := 143) (t := 143) X hO hB8 ⟨jqc_Wa_init, jqi_Wa_init, jqn_Wa⟩ (by decide +kernel) rfl jhi_Wa_init rfl (by decide) (by decide) (Nat.le_of_ble_eq_true rfl) ⟨by rw [hRc]; decide, by rw [hRs]; decide⟩ (K_Wa_init l g b) jd_G_init_51 rfl (fun I9 P9 hcf9 => ?_)
  have hB9 : j_Bl 150 I9 P9 := hcf9.1
  have hS9 : j_St 150 I9 P9 := hS8.step hcf9 (by decide)
  have hQ9 : P9 0 = (fun y => if y = 3 then some 41 else (fun y => if y = 2 then some 40 else (fun y => if y = 1 then some 38 else (fun y => if y = 0 then some 1 else (fun _ => none) y) y) y) y) := (hcf9.2.1 0 (by decide)).2.trans hQ8
  refine j_putr X jt_G jto_G jn_G jf_G_37 jk_0_4 js_0 (by decide) (Or.inr ⟨rfl, hnm, rfl⟩) rfl rfl rfl jd_G_init_54 ?_
  generalize hP10 : j_wp P9 0 4 (some 143) = P10
  have hB10 : j_Bl 150 I9 P10 := hP10 ▸ hB9.wp (by decide)
  have hS10 : j_St 150 I9 P10 := hP10 ▸ hS9.wp0 (by decide)
  have hQ10 : P10 0 = (fun y => if y = 4 then some 143 else (fun y => if y = 3 then some 41 else (fun y => if y = 2 then some 40 else (fun y => if y = 1 then some 38 else (fun y => if y = 0 then some 1 else (fun _ => none) y) y) y) y) y) := by rw [← hP10]; funext y; simp [j_wp, hQ9]
  refine j_aload_n X jd_G_init_57 rfl rfl ?_
  refine j_new X hB10 jt_La jto_La ji_La jc_La js_150 jlk_G_41 jqk_La jqn_La (by decide) (by rw [hRc]; decide) (by rw [hRs]; decide) jd_G_init_58 ?_
  refine j_dup X jd_G_init_61 rfl ?_
  refine j_callI (As := []) (st := [.ref (b + 150), .ref (b + 0)]) (c0 := 150) (t := 150) X hO hB10 ⟨jqc_La_init, jqi_La_init, jqn_La⟩ jlm_G_43 rfl jhi_La_init rfl (by decide) (by decide) (Nat.le_of_ble_eq_true rfl) ⟨by rw [hRc]; decide, by rw [hRs]; decide⟩ (K_La_init l g b) jd_G_init_62 rfl (fun I11 P11 hcf11 => ?_)
  have hB11 : j_Bl 194 I11 P11 := hcf11.1
  have hS11 : j_St 194 I11 P11 := hS10.step hcf11 (by decide)
  have hQ11 : P11 0 = (fun y => if y = 4 then some 143 else (fun y => if y = 3 then some 41 else (fun y => if y = 2 then some 40 else (fun y => if y = 1 then some 38 else (fun y => if y = 0 then some 1 else (fun _ => none) y) y) y) y) y) := (hcf11.2.1 0 (by decide)).2.trans hQ10
  refine j_putr X jt_G jto_G jn_G jf_G_44 jk_0_5 js_0 (by decide) (Or.inr ⟨rfl, hnm, rfl⟩) rfl rfl rfl jd_G_init_65 ?_
  generalize hP12 : j_wp P11 0 5 (some 150) = P12
  have hB12 : j_Bl 194 I11 P12 := hP12 ▸ hB11.wp (by decide)
  have hS12 : j_St 194 I11 P12 := hP12 ▸ hS11.wp0 (by decide)
  have hQ12 : P12 0 = (fun y => if y = 5 then some 150 else (fun y => if y = 4 then some 143 else (fun y => if y = 3 then some 41 else (fun y => if y = 2 then some 40 else (fun y => if y = 1 then some 38 else (fun y => if y = 0 then some 1 else (fun _ => none) y) y) y) y) y) y) := by rw [← hP12]; funext y; simp [j_wp, hQ11]
  refine j_aload_n X jd_G_init_68 rfl rfl ?_
  refine j_new X hB12 jt_Bo jto_Bo ji_Bo jc_Bo js_194 jlk_G_48 jqk_Bo jqn_Bo (by decide) (by rw [hRc]; decide) (by rw [hRs]; decide) jd_G_init_69 ?_
  refine j_dup X jd_G_init_72 rfl ?_
  refine j_callIN (As := []) (st := [.ref (b + 194), .ref (b + 0)]) (c0 := 194) (t := 194) X hO hB12 ⟨jqc_Bo_init, jqi_Bo_init, jqn_Bo⟩ (by decide +kernel) rfl jhi_Bo_init rfl (by decide) (by decide) (Nat.le_of_ble_eq_true rfl) ⟨by rw [hRc]; decide, by rw [hRs]; decide⟩ (K_Bo_init l g b) jd_G_init_73 rfl (fun I13 P13 hcf13 => ?_)
  have hB13 : j_Bl 198 I13 P13 := hcf13.1
  have hS13 : j_St 198 I13 P13 := hS12.step hcf13 (by decide)
  have hQ13 : P13 0 = (fun y => if y = 5 then some 150 else (fun y => if y = 4 then some 143 else (fun y => if y = 3 then some 41 else (fun y => if y = 2 then some 40 else (fun y => if y = 1 then some 38 else (fun y => if y = 0 then some 1 else (fun _ => none) y) y) y) y) y) y) := (hcf13.2.1 0 (by decide)).2.trans hQ12
  refine j_putr X jt_G jto_G jn_G jf_G_51 jk_0_6 js_0 (by decide) (Or.inr ⟨rfl, hnm, rfl⟩) rfl rfl rfl jd_G_init_76 ?_
  generalize hP14 : j_wp P13 0 6 (some 194) = P14
  have hB14 : j_Bl 198 I13 P14 := hP14 ▸ hB13.wp (by decide)
  have hS14 : j_St 198 I13 P14 := hP14 ▸ hS13.wp0 (by decide)
  have hQ14 : P14 0 = (fun y => if y = 6 then some 194 else (fun y => if y = 5 then some 150 else (fun y => if y = 4 then some 143 else (fun y => if y = 3 then some 41 else (fun y => if y = 2 then some 40 else (fun y => if y = 1 then some 38 else (fun y => if y = 0 then some 1 else (fun _ => none) y) y) y) y) y) y) y) := by rw [← hP14]; funext y; simp [j_wp, hQ13]
  refine j_aload_n X jd_G_init_79 rfl rfl ?_
  refine j_new X hB14 jt_Ki jto_Ki ji_Ki jc_Ki js_198 jlk_G_55 jqk_Ki jqn_Ki (by decide) (by rw [hRc]; decide) (by rw [hRs]; decide) jd_G_init_80 ?_
  refine j_dup X jd_G_init_83 rfl ?_
  refine j_callIN (As := []) (st := [.ref (b + 198), .ref (b + 0)]) (c0 := 198) (t := 198) X hO hB14 ⟨jqc_Ki_init, jqi_Ki_init, jqn_Ki⟩ (by decide +kernel) rfl jhi_Ki_init rfl (by decide) (by decide) (Nat.le_of_ble_eq_true rfl) ⟨by rw [hRc]; decide, by rw [hRs]; decide⟩ (K_Ki_init l g b) jd_G_init_84 rfl (fun I15 P15 hcf15 => ?_)
  have hB15 : j_Bl 202 I15 P15 := hcf15.1
  have hS15 : j_St 202 I15 P15 := hS14.step hcf15 (by decide)
  have hQ15 : P15 0 = (fun y => if y = 6 then some 194 else (fun y => if y = 5 then some 150 else (fun y => if y = 4 then some 143 else (fun y => if y = 3 then some 41 else (fun y => if y = 2 then some 40 else (fun y => if y = 1 then some 38 else (fun y => if y = 0 then some 1 else (fun _ => none) y) y) y) y) y) y) y) := (hcf15.2.1 0 (by decide)).2.trans hQ14
  refine j_putr X jt_G jto_G jn_G jf_G_58 jk_0_7 js_0 (by decide) (Or.inr ⟨rfl, hnm, rfl⟩) rfl rfl rfl jd_G_init_87 ?_
  generalize hP16 : j_wp P15 0 7 (some 198) = P16
  have hB16 : j_Bl 202 I15 P16 := hP16 ▸ hB15.wp (by decide)
  have hS16 : j_St 202 I15 P16 := hP16 ▸ hS15.wp0 (by decide)
  have hQ16 : P16 0 = (fun y => if y = 7 then some 198 else (fun y => if y = 6 then some 194 else (fun y => if y = 5 then some 150 else (fun y => if y = 4 then some 143 else (fun y => if y = 3 then some 41 else (fun y => if y = 2 then some 40 else (fun y => if y = 1 then some 38 else (fun y => if y = 0 then some 1 else (fun _ => none) y) y) y) y) y) y) y) y) := by rw [← hP16]; funext y; simp [j_wp, hQ15]
  refine j_aload_n X jd_G_init_90 rfl rfl ?_
  refine j_new X hB16 jt_Pr jto_Pr ji_Pr jc_Pr js_202 jlk_G_62 jqk_Pr jqn_Pr (by decide) (by rw [hRc]; decide) (by rw [hRs]; decide) jd_G_init_91 ?_
  refine j_dup X jd_G_init_94 rfl ?_
  refine j_callIN (As := []) (st := [.ref (b + 202), .ref (b + 0)]) (c0 := 202) (t := 202) X hO hB16 ⟨jqc_Pr_init, jqi_Pr_init, jqn_Pr⟩ (by decide +kernel) rfl jhi_Pr_init rfl (by decide) (by decide) (Nat.le_of_ble_eq_true rfl) ⟨by rw [hRc]; decide, by rw [hRs]; decide⟩ (K_Pr_init l g b) jd_G_init_95 rfl (fun I17 P17 hcf17 => ?_)
  have hB17 : j_Bl 211 I17 P17 := hcf17.1
  have hS17 : j_St 211 I17 P17 := hS16.step hcf17 (by decide)
  have hQ17 : P17 0 = (fun y => if y = 7 then some 198 else (fun y => if y = 6 then some 194 else (fun y => if y = 5 then some 150 else (fun y => if y = 4 then some 143 else (fun y => if y = 3 then some 41 else (fun y => if y = 2 then some 40 else (fun y => if y = 1 then some 38 else (fun y => if y = 0 then some 1 else (fun _ => none) y) y) y) y) y) y) y) y) := (hcf17.2.1 0 (by decide)).2.trans hQ16
  refine j_putr X jt_G jto_G jn_G jf_G_65 jk_0_8 js_0 (by decide) (Or.inr ⟨rfl, hnm, rfl⟩) rfl rfl rfl jd_G_init_98 ?_
  generalize hP18 : j_wp P17 0 8 (some 202) = P18
  have hB18 : j_Bl 211 I17 P18 := hP18 ▸ hB17.wp (by decide)
  have hS18 : j_St 211 I17 P18 := hP18 ▸ hS17.wp0 (by decide)
  have hQ18 : P18 0 = (fun y => if y = 8 then some 202 else (fun y => if y = 7 then some 198 else (fun y => if y = 6 then some 194 else (fun y => if y = 5 then some 150 else (fun y => if y = 4 then some 143 else (fun y => if y = 3 then some 41 else (fun y => if y = 2 then some 40 else (fun y => if y = 1 then some 38 else (fun y => if y = 0 then some 1 else (fun _ => none) y) y) y) y) y) y) y) y) y) := by rw [← hP18]; funext y; simp [j_wp, hQ17]
  refine j_aload_n X jd_G_init_101 rfl rfl ?_
  refine j_new X hB18 jt_Le jto_Le ji_Le jc_Le js_211 jlk_G_69 jqk_Le jqn_Le (by decide) (by rw [hRc]; decide) (by rw [hRs]; decide) jd_G_init_102 ?_
  refine j_dup X jd_G_init_105 rfl ?_
  refine j_callIN (As := []) (st := [.ref (b + 211), .ref (b + 0)]) (c0 := 211) (t := 211) X hO hB18 ⟨jqc_Le_init, jqi_Le_init, jqn_Le⟩ (by decide +kernel) rfl jhi_Le_init rfl (by decide) (by decide) (Nat.le_of_ble_eq_true rfl) ⟨by rw [hRc]; decide, by rw [hRs]; decide⟩ (K_Le_init l g b) jd_G_init_106 rfl (fun I19 P19 hcf19 => ?_)
  have hB19 : j_Bl 215 I19 P19 := hcf19.1
  have hS19 : j_St 215 I19 P19 := hS18.step hcf19 (by decide)
  have hQ19 : P19 0 = (fun y => if y = 8 then some 202 else (fun y => if y = 7 then some 198 else (fun y => if y = 6 then some 194 else (fun y => if y = 5 then some 150 else (fun y => if y = 4 then some 143 else (fun y => if y = 3 then some 41 else (fun y => if y = 2 then some 40 else (fun y => if y = 1 then some 38 else (fun y => if y = 0 then some 1 else (fun _ => none) y) y) y) y) y) y) y) y) y) := (hcf19.2.1 0 (by decide)).2.trans hQ18
  refine j_putr X jt_G jto_G jn_G jf_G_72 jk_0_9 js_0 (by decide) (Or.inr ⟨rfl, hnm, rfl⟩) rfl rfl rfl jd_G_init_109 ?_
  generalize hP20 : j_wp P19 0 9 (some 211) = P20
  have hB20 : j_Bl 215 I19 P20 := hP20 ▸ hB19.wp (by decide)
  have hS20 : j_St 215 I19 P20 := hP20 ▸ hS19.wp0 (by decide)
  have hQ20 : P20 0 = (fun y => if y = 9 then some 211 else (fun y => if y = 8 then some 202 else (fun y => if y = 7 then some 198 else (fun y => if y = 6 then some 194 else (fun y => if y = 5 then some 150 else (fun y => if y = 4 then some 143 else (fun y => if y = 3 then some 41 else (fun y => if y = 2 then some 40 else (fun y => if y = 1 then some 38 else (fun y => if y = 0 then some 1 else (fun _ => none) y) y) y) y) y) y) y) y) y) y) := by rw [← hP20]; funext y; simp [j_wp, hQ19]
  refine j_aload_n X jd_G_init_112 rfl rfl ?_
  refine j_iconst (v := 0) X jd_G_init_113 (by decide) ?_
  refine j_puti X jt_G jto_G jn_G jf_G_76 jk_0_10 js_0 (by decide) (Or.inl rfl) rfl jd_G_init_114 ?_
  generalize hI21 : j_wr I19 0 10 0 = I21
  have hB21 : j_Bl 215 I21 P20 := hI21 ▸ hB20.wr (by decide)
  have hS21 : j_St 215 I21 P20 := hI21 ▸ hS20.wr0 (by decide)
  refine j_aload_n X jd_G_init_117 rfl rfl ?_
  refine j_iconst (v := 0) X jd_G_init_118 (by decide) ?_
  refine j_puti X jt_G jto_G jn_G jf_G_80 jk_0_11 js_0 (by decide) (Or.inl rfl) rfl jd_G_init_119 ?_
  generalize hI22 : j_wr I21 0 11 0 = I22
  have hB22 : j_Bl 215 I22 P20 := hI22 ▸ hB21.wr (by decide)
  have hS22 : j_St 215 I22 P20 := hI22 ▸ hS21.wr0 (by decide)
  refine j_aload_n X jd_G_init_122 rfl rfl ?_
  refine j_iconst (v := 0) X jd_G_init_123 (by decide) ?_
  refine j_puti X jt_G jto_G jn_G jf_G_83 jk_0_12 js_0 (by decide) (Or.inl rfl) rfl jd_G_init_124 ?_
  generalize hI23 : j_wr I22 0 12 0 = I23
  have hB23 : j_Bl 215 I23 P20 := hI23 ▸ hB22.wr (by decide)
  have hS23 : j_St 215 I23 P20 := hI23 ▸ hS22.wr0 (by decide)
  refine j_aload_n X jd_G_init_127 rfl rfl ?_
  refine j_iconst (v := 0) X jd_G_init_128 (by decide) ?_
  refine j_puti X jt_G jto_G jn_G jf_G_86 jk_0_13 js_0 (by decide) (Or.inl rfl) rfl jd_G_init_129 ?_
  generalize hI24 : j_wr I23 0 13 0 = I24
  have hB24 : j_Bl 215 I24 P20 := hI24 ▸ hB23.wr (by decide)
  have hS24 : j_St 215 I24 P20 := hI24 ▸ hS23.wr0 (by decide)
  refine j_aload_n X jd_G_init_132 rfl rfl ?_
  refine j_iconst (v := 0) X jd_G_init_133 (by decide) ?_
  refine j_puti X jt_G jto_G jn_G jf_G_89 jk_0_14 js_0 (by decide) (Or.inl rfl) rfl jd_G_init_134 ?_
  generalize hI25 : j_wr I24 0 14 0 = I25
  have hB25 : j_Bl 215 I25 P20 := hI25 ▸ hB24.wr (by decide)
  have hS25 : j_St 215 I25 P20 := hI25 ▸ hS24.wr0 (by decide)
  refine j_vretC X rfl ⟨hB25, fun c hc => absurd hc (by omega), j_Fx.join (mi := 1) ?_ hS25.2.1, fun c h1 h2 => ?_⟩ jd_G_init_137
  · refine ⟨fun q hq h1 h2 => ?_, fun q hq h1 h2 i hi => ?_⟩
    · have e : j_pfL.filter (fun q => decide (0 ≤ q.1 ∧ q.1 < 1)) = [(0, 0, 1), (0, 1, 38), (0, 2, 40), (0, 3, 41), (0, 4, 143), (0, 5, 150), (0, 6, 194), (0, 7, 198), (0, 8, 202), (0, 9, 211)] := by decide
      have hm : q ∈ [((0, 0, 1) : Nat × Nat × Nat), ((0, 1, 38) : Nat × Nat × Nat), ((0, 2, 40) : Nat × Nat × Nat), ((0, 3, 41) : Nat × Nat × Nat), ((0, 4, 143) : Nat × Nat × Nat), ((0, 5, 150) : Nat × Nat × Nat), ((0, 6, 194) : Nat × Nat × Nat), ((0, 7, 198) : Nat × Nat × Nat), ((0, 8, 202) : Nat × Nat × Nat), ((0, 9, 211) : Nat × Nat × Nat)] := by rw [← e]; exact List.mem_filter.mpr ⟨hq, decide_eq_true ⟨h1, h2⟩⟩
      simp only [List.mem_cons, List.not_mem_nil, or_false] at hm
      rcases hm with rfl | rfl | rfl | rfl | rfl | rfl | rfl | rfl | rfl | rfl <;> simp [hQ20]
    · have e : j_paL.filter (fun q => decide (0 ≤ q.1 ∧ q.1 < 1)) = [] := by decide
      have hm : q ∈ ([] : List (Nat × Nat × Nat)) := by rw [← e]; exact List.mem_filter.mpr ⟨hq, decide_eq_true ⟨h1, h2⟩⟩
      cases hm
  · by_cases e : c = 0
    · subst e; rw [hS25.2.2.2]; exact (jIf_plain (by decide)).symm
    · exact hS25.2.2.1 c (by omega) h2
