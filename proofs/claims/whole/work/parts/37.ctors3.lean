theorem jd_Gu_init_0 : decode jb_Gu_init 0 = .ok (.aload_n 0, 1) := by decide +kernel
theorem jd_Gu_init_1 : decode jb_Gu_init 1 = .ok (.invokespecial 1, 3) := by decide +kernel
theorem jd_Gu_init_4 : decode jb_Gu_init 4 = .ok (.aload_n 0, 1) := by decide +kernel
theorem jd_Gu_init_5 : decode jb_Gu_init 5 = .ok (.iconst 0, 1) := by decide +kernel
theorem jd_Gu_init_6 : decode jb_Gu_init 6 = .ok (.putfield 7, 3) := by decide +kernel
theorem jd_Gu_init_9 : decode jb_Gu_init 9 = .ok (.aload_n 0, 1) := by decide +kernel
theorem jd_Gu_init_10 : decode jb_Gu_init 10 = .ok (.bipush 100, 2) := by decide +kernel
theorem jd_Gu_init_12 : decode jb_Gu_init 12 = .ok (.anewarray 13, 3) := by decide +kernel
theorem jd_Gu_init_15 : decode jb_Gu_init 15 = .ok (.putfield 15, 3) := by decide +kernel
theorem jd_Gu_init_18 : decode jb_Gu_init 18 = .ok (.iconst 0, 1) := by decide +kernel
theorem jd_Gu_init_19 : decode jb_Gu_init 19 = .ok (.istore_n 1, 1) := by decide +kernel
theorem jd_Gu_init_20 : decode jb_Gu_init 20 = .ok (.iload_n 1, 1) := by decide +kernel
theorem jd_Gu_init_21 : decode jb_Gu_init 21 = .ok (.bipush 100, 2) := by decide +kernel
theorem jd_Gu_init_23 : decode jb_Gu_init 23 = .ok (.if_icmp .ge 23, 3) := by decide +kernel
theorem jd_Gu_init_26 : decode jb_Gu_init 26 = .ok (.aload_n 0, 1) := by decide +kernel
theorem jd_Gu_init_27 : decode jb_Gu_init 27 = .ok (.getfield 15, 3) := by decide +kernel
theorem jd_Gu_init_30 : decode jb_Gu_init 30 = .ok (.iload_n 1, 1) := by decide +kernel
theorem jd_Gu_init_31 : decode jb_Gu_init 31 = .ok (.new 13, 3) := by decide +kernel
theorem jd_Gu_init_34 : decode jb_Gu_init 34 = .ok (.dup, 1) := by decide +kernel
theorem jd_Gu_init_35 : decode jb_Gu_init 35 = .ok (.iload_n 1, 1) := by decide +kernel
theorem jd_Gu_init_36 : decode jb_Gu_init 36 = .ok (.invokespecial 19, 3) := by decide +kernel
theorem jd_Gu_init_39 : decode jb_Gu_init 39 = .ok (.aastore, 1) := by decide +kernel
theorem jd_Gu_init_40 : decode jb_Gu_init 40 = .ok (.iinc 1 1, 3) := by decide +kernel
theorem jd_Gu_init_43 : decode jb_Gu_init 43 = .ok (.goto (-23), 3) := by decide +kernel
theorem jd_Gu_init_46 : decode jb_Gu_init 46 = .ok (.return_, 1) := by decide +kernel
theorem jhi_Gu_init : jy_Gu_init.cls ≠ "java/lang/invoke/MethodHandle" ∧ jy_Gu_init.cls ≠ "java/lang/invoke/VarHandle" ∧ (parseMethodDescriptor jy_Gu_init.desc).map (fun d => d.parameters.length) = some 0 := by decide +kernel
theorem jz_Pa {i : Nat} (hi : i < 100) : ∀ k, k < 12 → (j_fk 4 k = 0 ∨ j_fk 4 k = 1 ∨ jI0 (43 + i) k < 0) ∧ j_dv 4 (43 + i) k = defaultValue (jt_Pa k) := by
  intro k hk
  have h0 : ∀ k, k < 12 → j_fk 4 k = 0 ∧ defaultValue (jt_Pa k) = .int 0 := by decide
  obtain ⟨h1, h2⟩ := h0 k hk
  refine ⟨Or.inl h1, ?_⟩
  rw [h2, j_dv, if_pos h1]
  simp [jI0, show 43 + i ≠ 208 by omega]
def p_gu (I0 : j_M) (P0 : j_R) (i : Nat) (I : j_M) (P : j_R) : Prop := j_Bl (43 + i) I P ∧ (∀ c, c < 41 → I c = I0 c ∧ P c = P0 c) ∧ I 41 = jI0 41 ∧ I 42 = jI0 42 ∧ P 41 1 = some 42 ∧ (∀ k, k < i → P 42 k = some (43 + k)) ∧ ∀ c, 43 ≤ c → c < 43 + i → I c = jIf c
set_option maxRecDepth 100000 in
set_option maxHeartbeats 4000000 in
theorem k_Gu_init_20 {p : Program} {l : Launch} {e : Env} {R : Room} {s : State} {m : MethodId} {args : Array Value} {below : List Frame} {meth : Method} {c : Code} {g : j_G} {b : Nat} (X : j_X p R s m args meth c g b 2 jb_Gu_init 2 "PleasureGarden$Guests" none) (hO : j_AO s) (hRc : R.cells = 101) (hRs : R.slots = 1300) {I0 : j_M} {P0 : j_R} : ∀ (k i : Nat) (I : j_M) (P : j_R), i + k = 100 → p_gu I0 P0 i I P → j_W p l e R s m args below meth c 2 g b (43 + i) (1 + i) (100 + 12 * i) (MQ below (j_PostC g b 41 143 I0 P0) args s 101 1300 (fun q => b ≤ q)) I P 20 [some (.ref (b + 41)), some (.int (nI i))] [] := by
  intro k
  induction k with
  | zero =>
    intro i I P hi hI
    obtain rfl : i = 100 := by omega
    obtain ⟨hB, hfr, h41, h42, hp1, hp2, hif⟩ := hI
    refine j_iload_n X jd_Gu_init_20 rfl rfl ?_
    refine j_bipush (v := 100) X jd_Gu_init_21 (by decide) ?_
    refine j_icmp_ge (tgt := 46) (α := Unit) (A := some ()) (B := none) (r := ()) X jd_Gu_init_23 rfl (if_pos (by decide)) (fun _ => ?_) (fun h => by cases h)
    refine j_vretC X rfl ⟨hB, hfr, ⟨fun q hq h1 h2 => ?_, fun q hq h1 h2 i hi => ?_⟩, fun c h1 h2 => ?_⟩ jd_Gu_init_46
    · have e : j_pfL.filter (fun q => decide (41 ≤ q.1 ∧ q.1 < 143)) = [(41, 1, 42)] := by decide
      have hm : q ∈ [((41, 1, 42) : Nat × Nat × Nat)] := by rw [← e]; exact List.mem_filter.mpr ⟨hq, decide_eq_true ⟨h1, h2⟩⟩
      rw [List.mem_singleton.mp hm]
      exact hp1
    · have e : j_paL.filter (fun q => decide (41 ≤ q.1 ∧ q.1 < 143)) = [(42, 43, 100)] := by decide
      have hm : q ∈ [((42, 43, 100) : Nat × Nat × Nat)] := by rw [← e]; exact List.mem_filter.mpr ⟨hq, decide_eq_true ⟨h1, h2⟩⟩
      have hq2 := List.mem_singleton.mp hm
      subst hq2
      exact hp2 i hi
    · by_cases h3 : 43 ≤ c
      · exact hif c h3 (by omega)
      · rw [jIf_plain (by omega)]
        rcases (by omega : c = 41 ∨ c = 42) with rfl | rfl
        · exact h41
        · exact h42
  | succ k ih =>
    intro i I P hi hI
    have hi1 : i < 100 := by omega
    have hI0 := hI
    obtain ⟨hB, hfr, h41, h42, hp1, hp2, hif⟩ := hI
    refine j_iload_n X jd_Gu_init_20 rfl rfl ?_
    refine j_bipush (v := 100) X jd_Gu_init_21 (by decide) ?_
    refine j_icmp_ge (tgt := 46) (α := Unit) (A := none) (B := some ()) (r := ()) X jd_Gu_init_23 rfl (if_neg (nI_ge (b := 100) hi1 (by decide))) (fun h => by cases h) (fun _ => ?_)
    refine j_aload_n X jd_Gu_init_26 rfl rfl ?_
    refine j_getr X jf_Gu_15 jk_3_1 js_41 (by omega) hp1 jd_Gu_init_27 ?_
    refine j_iload_n X jd_Gu_init_30 rfl rfl ?_
    refine j_new X hB jt_Pa jto_Pa ji_Pa jc_Pa (jsp_43 hi1) jlk_Gu_13 jqk_Pa jqn_Pa (jz_Pa hi1) (by rw [hRc]; omega) (by rw [hRs]; omega) jd_Gu_init_31 ?_
    refine j_dup X jd_Gu_init_34 rfl ?_
    refine j_iload_n X jd_Gu_init_35 rfl rfl ?_
    refine j_callI (As := [.int (nI i)]) (st := [.ref (b + (43 + i)), .int (nI i), .ref (b + 42)]) (c0 := 43 + i) (t := 43 + i) X hO hB ⟨jqc_Pa_init, jqi_Pa_init, jqn_Pa⟩ jlm_Gu_19 rfl jhi_Pa_init rfl (by decide) (by decide) (Nat.le_of_ble_eq_true rfl) ⟨by rw [hRc]; omega, by rw [hRs]; omega⟩ (K_Pa_init l g b hi1) jd_Gu_init_36 rfl (fun I1 P1 hcf => ?_)
    refine j_aast X js_42 (by omega) (by omega) (jsp_43 hi1) (j_ok_nI hi1 (by decide)) jd_Gu_init_39 ?_
    rw [j_ix_nI (by omega)]
    refine j_iinc (v := nI (i + 1)) (lv' := [some (.ref (b + 41)), some (.int (nI (i + 1)))]) X jd_Gu_init_40 rfl (nI_1 i) (by decide) rfl ?_
    refine j_goto (tgt := 20) X jd_Gu_init_43 rfl ?_
    have hi9 := ih (i + 1) I1 (j_wp P1 42 i (some (43 + i))) (by omega) ⟨(hcf.1).wp (by omega), fun c hc => ?_, ?_, ?_, ?_, fun k hk => ?_, fun c h1 h2 => ?_⟩
    · exact hi9
    · rw [j_wp_cell _ _ _ (by omega)]
      exact ⟨(hcf.2.1 c (by omega)).1.trans (hfr c hc).1, (hcf.2.1 c (by omega)).2.trans (hfr c hc).2⟩
    · exact (hcf.2.1 41 (by omega)).1.trans h41
    · exact (hcf.2.1 42 (by omega)).1.trans h42
    · rw [j_wp_cell _ _ _ (by omega), (hcf.2.1 41 (by omega)).2]; exact hp1
    · by_cases ek : k = i
      · subst ek; simp [j_wp]
      · rw [show j_wp P1 42 i (some (43 + i)) 42 k = P1 42 k by simp [j_wp, ek], (hcf.2.1 42 (by omega)).2]
        exact hp2 k (by omega)
    · by_cases ec : c = 43 + i
      · exact hcf.2.2.2 c (by omega) (by omega)
      · rw [(hcf.2.1 c (by omega)).1]; exact hif c h1 (by omega)
set_option maxRecDepth 100000 in
set_option maxHeartbeats 4000000 in
theorem K_Gu_init (l : Launch) (g : j_G) (b : Nat) : j_MetC l g b 2 jy_Gu_init jb_Gu_init 2 41 42 143 101 1300 [.ref (b + 41)] := by
  refine j_enterC (plainFor_of_name (by decide)) (Nat.le_of_ble_eq_true rfl) [some (.ref (b + 41)), none] rfl ?_
  intro I P hBt p e R s m args below meth c X0 hO hnm hRc hRs
  have X : j_X p R s m args meth c g b 2 jb_Gu_init 2 "PleasureGarden$Guests" none := X0
  clear X0
  have hnm : meth.name = "<init>" := hnm
  have hB0 : j_Bl 42 I P := hBt.le (by omega)
  refine j_aload_n X jd_Gu_init_0 rfl rfl ?_
  refine j_objInit (st := []) X jlm_Gu_1 (by decide) (Nat.le_of_ble_eq_true rfl) jd_Gu_init_1 ?_
  refine j_aload_n X jd_Gu_init_4 rfl rfl ?_
  refine j_iconst (v := 0) X jd_Gu_init_5 (by decide) ?_
  refine j_puti X jt_Gu jto_Gu jn_Gu jf_Gu_7 jk_3_0 js_41 (by decide) (Or.inl rfl) rfl jd_Gu_init_6 ?_
  generalize hI1 : j_wr I 41 0 0 = I1
  have hB1 : j_Bl 42 I1 P := hI1 ▸ hB0.wr (by decide)
  refine j_aload_n X jd_Gu_init_9 rfl rfl ?_
  refine j_bipush (v := 100) X jd_Gu_init_10 (by decide) ?_
  refine j_newP (N := 100) X hO hB1 jlk_Gu_13 js_42 (by decide) (by decide) (by decide) (by rw [hRc]; decide) (by rw [hRs]; decide) jd_Gu_init_12 ?_
  have hB2 : j_Bl 43 I1 P := hB1.le (by decide)
  refine j_putr X jt_Gu jto_Gu jn_Gu jf_Gu_15 jk_3_1 js_41 (by decide) (Or.inr ⟨rfl, hnm, rfl⟩) rfl rfl rfl jd_Gu_init_15 ?_
  generalize hP3 : j_wp P 41 1 (some 42) = P3
  have hB3 : j_Bl 43 I1 P3 := hP3 ▸ hB2.wp (by decide)
  refine j_iconst (v := 0) X jd_Gu_init_18 (by decide) ?_
  refine j_istore_n (lv' := [some (.ref (b + 41)), some (.int 0)]) X jd_Gu_init_19 rfl (by decide) rfl ?_
  refine k_Gu_init_20 X hO hRc hRs 100 0 _ _ rfl ⟨hB3, fun c hc => ⟨?_, ?_⟩, ?_, ?_, ?_, fun k hk => absurd hk (by omega), fun c h1 h2 => absurd h2 (by omega)⟩
  · have hne : c ≠ 41 := by omega
    subst hI1 hP3
    simp [j_wr_cell _ _ _ hne]
  · have hne : c ≠ 41 := by omega
    subst hI1 hP3
    simp [j_wp_cell _ _ _ hne]
  · have h0 := hBt.1 41 (by omega)
    subst hI1 hP3
    funext k
    simp only [j_wr, true_and, h0]
    simp [jI0]
  · have h0 := hBt.1 42 (by omega)
    subst hI1 hP3
    simp [j_wr_cell _ _ _ (show (42 : Nat) ≠ 41 by decide), h0]
  · subst hI1 hP3
    simp [j_wp]
theorem jd_La_init_0 : decode jb_La_init 0 = .ok (.aload_n 0, 1) := by decide +kernel
theorem jd_La_init_1 : decode jb_La_init 1 = .ok (.invokespecial 1, 3) := by decide +kernel
theorem jd_La_init_4 : decode jb_La_init 4 = .ok (.aload_n 0, 1) := by decide +kernel
theorem jd_La_init_5 : decode jb_La_init 5 = .ok (.iconst 0, 1) := by decide +kernel
theorem jd_La_init_6 : decode jb_La_init 6 = .ok (.putfield 7, 3) := by decide +kernel
theorem jd_La_init_9 : decode jb_La_init 9 = .ok (.aload_n 0, 1) := by decide +kernel
theorem jd_La_init_10 : decode jb_La_init 10 = .ok (.iconst 0, 1) := by decide +kernel
theorem jd_La_init_11 : decode jb_La_init 11 = .ok (.putfield 13, 3) := by decide +kernel
theorem jd_La_init_14 : decode jb_La_init 14 = .ok (.aload_n 0, 1) := by decide +kernel
theorem jd_La_init_15 : decode jb_La_init 15 = .ok (.iconst (-1), 1) := by decide +kernel
theorem jd_La_init_16 : decode jb_La_init 16 = .ok (.putfield 16, 3) := by decide +kernel
theorem jd_La_init_19 : decode jb_La_init 19 = .ok (.aload_n 0, 1) := by decide +kernel
theorem jd_La_init_20 : decode jb_La_init 20 = .ok (.bipush 40, 2) := by decide +kernel
theorem jd_La_init_22 : decode jb_La_init 22 = .ok (.newarray .int, 2) := by decide +kernel
theorem jd_La_init_24 : decode jb_La_init 24 = .ok (.putfield 19, 3) := by decide +kernel
theorem jd_La_init_27 : decode jb_La_init 27 = .ok (.aload_n 0, 1) := by decide +kernel
theorem jd_La_init_28 : decode jb_La_init 28 = .ok (.bipush 40, 2) := by decide +kernel
theorem jd_La_init_30 : decode jb_La_init 30 = .ok (.newarray .int, 2) := by decide +kernel
theorem jd_La_init_32 : decode jb_La_init 32 = .ok (.putfield 23, 3) := by decide +kernel
theorem jd_La_init_35 : decode jb_La_init 35 = .ok (.aload_n 0, 1) := by decide +kernel
theorem jd_La_init_36 : decode jb_La_init 36 = .ok (.bipush 40, 2) := by decide +kernel
theorem jd_La_init_38 : decode jb_La_init 38 = .ok (.bipush 40, 2) := by decide +kernel
theorem jd_La_init_40 : decode jb_La_init 40 = .ok (.multianewarray 26 2, 4) := by decide +kernel
theorem jd_La_init_44 : decode jb_La_init 44 = .ok (.putfield 28, 3) := by decide +kernel
theorem jd_La_init_47 : decode jb_La_init 47 = .ok (.iconst 0, 1) := by decide +kernel
theorem jd_La_init_48 : decode jb_La_init 48 = .ok (.istore_n 1, 1) := by decide +kernel
theorem jd_La_init_49 : decode jb_La_init 49 = .ok (.iload_n 1, 1) := by decide +kernel
theorem jd_La_init_50 : decode jb_La_init 50 = .ok (.bipush 40, 2) := by decide +kernel
theorem jd_La_init_52 : decode jb_La_init 52 = .ok (.if_icmp .ge 42, 3) := by decide +kernel
theorem jd_La_init_55 : decode jb_La_init 55 = .ok (.iconst 0, 1) := by decide +kernel
theorem jd_La_init_56 : decode jb_La_init 56 = .ok (.istore_n 2, 1) := by decide +kernel
theorem jd_La_init_57 : decode jb_La_init 57 = .ok (.iload_n 2, 1) := by decide +kernel
theorem jd_La_init_58 : decode jb_La_init 58 = .ok (.bipush 40, 2) := by decide +kernel
theorem jd_La_init_60 : decode jb_La_init 60 = .ok (.if_icmp .ge 28, 3) := by decide +kernel
theorem jd_La_init_63 : decode jb_La_init 63 = .ok (.aload_n 0, 1) := by decide +kernel
theorem jd_La_init_64 : decode jb_La_init 64 = .ok (.getfield 28, 3) := by decide +kernel
theorem jd_La_init_67 : decode jb_La_init 67 = .ok (.iload_n 1, 1) := by decide +kernel
theorem jd_La_init_68 : decode jb_La_init 68 = .ok (.aaload, 1) := by decide +kernel
theorem jd_La_init_69 : decode jb_La_init 69 = .ok (.iload_n 2, 1) := by decide +kernel
theorem jd_La_init_70 : decode jb_La_init 70 = .ok (.iload_n 1, 1) := by decide +kernel
theorem jd_La_init_71 : decode jb_La_init 71 = .ok (.iload_n 2, 1) := by decide +kernel
theorem jd_La_init_72 : decode jb_La_init 72 = .ok (.if_icmp .ne 7, 3) := by decide +kernel
theorem jd_La_init_75 : decode jb_La_init 75 = .ok (.iconst 0, 1) := by decide +kernel
theorem jd_La_init_76 : decode jb_La_init 76 = .ok (.goto 5, 3) := by decide +kernel
theorem jd_La_init_79 : decode jb_La_init 79 = .ok (.ldc 31, 2) := by decide +kernel
theorem jd_La_init_81 : decode jb_La_init 81 = .ok (.iastore, 1) := by decide +kernel
theorem jd_La_init_82 : decode jb_La_init 82 = .ok (.iinc 2 1, 3) := by decide +kernel
theorem jd_La_init_85 : decode jb_La_init 85 = .ok (.goto (-28), 3) := by decide +kernel
theorem jd_La_init_88 : decode jb_La_init 88 = .ok (.iinc 1 1, 3) := by decide +kernel
theorem jd_La_init_91 : decode jb_La_init 91 = .ok (.goto (-42), 3) := by decide +kernel
theorem jd_La_init_94 : decode jb_La_init 94 = .ok (.return_, 1) := by decide +kernel
theorem jhi_La_init : jy_La_init.cls ≠ "java/lang/invoke/MethodHandle" ∧ jy_La_init.cls ≠ "java/lang/invoke/VarHandle" ∧ (parseMethodDescriptor jy_La_init.desc).map (fun d => d.parameters.length) = some 0 := by decide +kernel
def p_la (I0 : j_M) (a j : Nat) (I : j_M) : Prop := (∀ c k, ¬ (154 ≤ c ∧ c < 194 ∧ k < 40) → I c k = I0 c k) ∧ (∀ x, x < a → ∀ k, k < 40 → I (154 + x) k = jIf (154 + x) k) ∧ ∀ k, k < j → I (154 + a) k = jIf (154 + a) k
set_option maxRecDepth 100000 in
set_option maxHeartbeats 4000000 in
theorem k_La_init_57 {p : Program} {l : Launch} {e : Env} {R : Room} {s : State} {m : MethodId} {args : Array Value} {below : List Frame} {meth : Method} {c : Code} {g : j_G} {b : Nat} {n cells slots : Nat} {Q : State → Prop} {P : j_R} (X : j_X p R s m args meth c g b 1 jb_La_init 3 "PleasureGarden$Lamps" none) (hn : 194 ≤ n) (hp : P 150 5 = some 153) (hq : ∀ i, i < 40 → P 153 i = some (154 + i)) {I0 : j_M} {a : Nat} (ha : a < 40) (hk : ∀ I, p_la I0 a 40 I → j_W p l e R s m args below meth c 3 g b n cells slots Q I P 88 [some (.ref (b + 150)), some (.int (nI a)), none] []) : ∀ (k j : Nat) (I : j_M), j + k = 40 → p_la I0 a j I → j_W p l e R s m args below meth c 3 g b n cells slots Q I P 57 [some (.ref (b + 150)), some (.int (nI a)), some (.int (nI j))] [] := by
  intro k
  induction k with
  | zero =>
    intro j I hj hI
    obtain rfl : j = 40 := by omega
    refine j_iload_n X jd_La_init_57 rfl rfl ?_
    refine j_bipush (v := 40) X jd_La_init_58 (by decide) ?_
    refine j_icmp_ge (tgt := 88) (α := Unit) (A := some ()) (B := none) (r := ()) X jd_La_init_60 rfl (if_pos (by decide)) (fun _ => ?_) (fun h => by cases h)
    refine j_sub [true, true, false] (lv' := [some (.ref (b + 150)), some (.int (nI a)), none]) rfl ?_
    exact hk I hI
  | succ k ih =>
    intro j I hj hI
    have hj1 : j < 40 := by omega
    have hfin : ∀ v : Int32, v = jIf (154 + a) j → j_W p l e R s m args below meth c 3 g b n cells slots Q I P 81 [some (.ref (b + 150)), some (.int (nI a)), some (.int (nI j))] [.int v, .int (nI j), .ref (b + (154 + j_ix (nI a)))] := by
      intro v hv
      refine j_iast (α := Unit) (A := some ()) (r := ()) X (jsp_154 (j_ok_lt (j_ok_nI ha (by decide)))) (by rw [j_ix_nI (by omega)]; omega) jd_La_init_81 (if_pos (j_ok_nI hj1 (by decide))) (fun _ => ?_)
      rw [j_ix_nI (by omega), j_ix_nI (by omega)]
      refine j_iinc (v := nI (j + 1)) (lv' := [some (.ref (b + 150)), some (.int (nI a)), some (.int (nI (j + 1)))]) X jd_La_init_82 rfl (nI_1 j) (by decide) rfl ?_
      refine j_goto (tgt := 57) X jd_La_init_85 rfl ?_
      refine ih (j + 1) _ (by omega) ⟨fun c k hck => ?_, fun x hx k hk40 => ?_, fun k hk1 => ?_⟩
      · rw [j_wr_at, if_neg (by omega)]; exact hI.1 c k hck
      · rw [j_wr_at, if_neg (by omega)]; exact hI.2.1 x hx k hk40
      · rw [j_wr_at]
        by_cases e : k = j
        · subst e; rw [if_pos ⟨rfl, rfl⟩]; exact hv
        · rw [if_neg (by omega)]; exact hI.2.2 k (by omega)
    have hval : jIf (154 + a) j = if a = j then 0 else 10000000 := by
      unfold jIf
      rw [if_neg (by omega), if_neg (by omega), if_pos (by omega), if_pos hj1, Nat.add_sub_cancel_left]
      by_cases e : a = j
      · rw [if_pos e, if_pos e.symm]
      · rw [if_neg e, if_neg (fun z => e z.symm)]
    refine j_iload_n X jd_La_init_57 rfl rfl ?_
    refine j_bipush (v := 40) X jd_La_init_58 (by decide) ?_
    refine j_icmp_ge (tgt := 88) (α := Unit) (A := none) (B := some ()) (r := ()) X jd_La_init_60 rfl (if_neg (nI_ge (b := 40) hj1 (by decide))) (fun h => by cases h) (fun _ => ?_)
    refine j_aload_n X jd_La_init_63 rfl rfl ?_
    refine j_getr X jf_La_28 jk_6_5 js_150 (by omega) hp jd_La_init_64 ?_
    refine j_iload_n X jd_La_init_67 rfl rfl ?_
    refine j_aald (α := Unit) (A := some ()) (r := ()) (q := 154 + j_ix (nI a)) X rfl rfl js_153 (by omega) jd_La_init_68 (fun q => hq _ (j_ok_lt q)) (if_pos (j_ok_nI ha (by decide))) (fun _ _ => ?_)
    refine j_iload_n X jd_La_init_69 rfl rfl ?_
    refine j_iload_n X jd_La_init_70 rfl rfl ?_
    refine j_iload_n X jd_La_init_71 rfl rfl ?_
    by_cases e : a = j
    · refine j_icmp_ne (tgt := 79) (α := Unit) (A := some ()) (B := none) (r := ()) X jd_La_init_72 rfl (if_pos (by rw [e])) (fun _ => ?_) (fun h => by cases h)
      refine j_iconst (v := 0) X jd_La_init_75 (by decide) ?_
      refine j_goto (tgt := 81) X jd_La_init_76 rfl ?_
      exact hfin 0 (by rw [hval, if_pos e])
    · refine j_icmp_ne (tgt := 79) (α := Unit) (A := none) (B := some ()) (r := ()) X jd_La_init_72 rfl (if_neg (fun z => e ((nI_eq (by omega) (by omega)).mp z))) (fun h => by cases h) (fun _ => ?_)
      refine j_ldc (v := 10000000) X jlc_La_31 jd_La_init_79 ?_
      exact hfin 10000000 (by rw [hval, if_neg e])
set_option maxRecDepth 100000 in
set_option maxHeartbeats 4000000 in
theorem k_La_init_49 {p : Program} {l : Launch} {e : Env} {R : Room} {s : State} {m : MethodId} {args : Array Value} {below : List Frame} {meth : Method} {c : Code} {g : j_G} {b : Nat} {n cells slots : Nat} {Q : State → Prop} {P : j_R} (X : j_X p R s m args meth c g b 1 jb_La_init 3 "PleasureGarden$Lamps" none) (hn : 194 ≤ n) (hp : P 150 5 = some 153) (hq : ∀ i, i < 40 → P 153 i = some (154 + i)) {I0 : j_M} (hk : ∀ I, p_la I0 40 0 I → j_W p l e R s m args below meth c 3 g b n cells slots Q I P 94 [some (.ref (b + 150)), none, none] []) : ∀ (k a : Nat) (I : j_M), a + k = 40 → p_la I0 a 0 I → j_W p l e R s m args below meth c 3 g b n cells slots Q I P 49 [some (.ref (b + 150)), some (.int (nI a)), none] [] := by
  intro k
  induction k with
  | zero =>
    intro a I ha hI
    obtain rfl : a = 40 := by omega
    refine j_iload_n X jd_La_init_49 rfl rfl ?_
    refine j_bipush (v := 40) X jd_La_init_50 (by decide) ?_
    refine j_icmp_ge (tgt := 94) (α := Unit) (A := some ()) (B := none) (r := ()) X jd_La_init_52 rfl (if_pos (by decide)) (fun _ => ?_) (fun h => by cases h)
    refine j_sub [true, false, false] (lv' := [some (.ref (b + 150)), none, none]) rfl ?_
    exact hk I hI
  | succ k ih =>
    intro a I ha hI
    have ha1 : a < 40 := by omega
    refine j_iload_n X jd_La_init_49 rfl rfl ?_
    refine j_bipush (v := 40) X jd_La_init_50 (by decide) ?_
    refine j_icmp_ge (tgt := 94) (α := Unit) (A := none) (B := some ()) (r := ()) X jd_La_init_52 rfl (if_neg (nI_ge (b := 40) ha1 (by decide))) (fun h => by cases h) (fun _ => ?_)
    refine j_iconst (v := 0) X jd_La_init_55 (by decide) ?_
    refine j_istore_n (lv' := [some (.ref (b + 150)), some (.int (nI a)), some (.int 0)]) X jd_La_init_56 rfl (by decide) rfl ?_
    refine k_La_init_57 X hn hp hq ha1 (fun I1 h1 => ?_) 40 0 I rfl hI
    refine j_iinc (v := nI (a + 1)) (lv' := [some (.ref (b + 150)), some (.int (nI (a + 1))), none]) X jd_La_init_88 rfl (nI_1 a) (by decide) rfl ?_
    refine j_goto (tgt := 49) X jd_La_init_91 rfl ?_
    refine ih (a + 1) I1 (by omega) ⟨h1.1, fun x hx k hk40 => ?_, fun k hk => absurd hk (by omega)⟩
    by_cases e : x = a
    · subst e; exact h1.2.2 k hk40
    · exact h1.2.1 x (by omega) k hk40
set_option maxRecDepth 100000 in
set_option maxHeartbeats 4000000 in
theorem K_La_init (l : Launch) (g : j_G) (b : Nat) : j_MetC l g b 1 jy_La_init jb_La_init 3 150 151 194 43 1720 [.ref (b + 150)] := by
  refine j_enterC (plainFor_of_name (by decide)) (Nat.le_of_ble_eq_true rfl) [some (.ref (b + 150)), none, none] rfl ?_
  intro I P hBt p e R s m args below meth c X0 hO hnm hRc hRs
  have X : j_X p R s m args meth c g b 1 jb_La_init 3 "PleasureGarden$Lamps" none := X0
  clear X0
  have hnm : meth.name = "<init>" := hnm
  have hB0 : j_Bl 151 I P := hBt.le (by omega)
  refine j_aload_n X jd_La_init_0 rfl rfl ?_
  refine j_objInit (st := []) X jlm_La_1 (by decide) (Nat.le_of_ble_eq_true rfl) jd_La_init_1 ?_
  refine j_aload_n X jd_La_init_4 rfl rfl ?_
  refine j_iconst (v := 0) X jd_La_init_5 (by decide) ?_
  refine j_puti X jt_La jto_La jn_La jf_La_7 jk_6_0 js_150 (by decide) (Or.inl rfl) rfl jd_La_init_6 ?_
  generalize hI1 : j_wr I 150 0 0 = I1
  have hB1 : j_Bl 151 I1 P := hI1 ▸ hB0.wr (by decide)
  refine j_aload_n X jd_La_init_9 rfl rfl ?_
  refine j_iconst (v := 0) X jd_La_init_10 (by decide) ?_
  refine j_puti X jt_La jto_La jn_La jf_La_13 jk_6_1 js_150 (by decide) (Or.inl rfl) rfl jd_La_init_11 ?_
  generalize hI2 : j_wr I1 150 1 0 = I2
  have hB2 : j_Bl 151 I2 P := hI2 ▸ hB1.wr (by decide)
  refine j_aload_n X jd_La_init_14 rfl rfl ?_
  refine j_iconst (v := (-1)) X jd_La_init_15 (by decide) ?_
  refine j_puti X jt_La jto_La jn_La jf_La_16 jk_6_2 js_150 (by decide) (Or.inl rfl) rfl jd_La_init_16 ?_
  generalize hI3 : j_wr I2 150 2 (-1) = I3
  have hB3 : j_Bl 151 I3 P := hI3 ▸ hB2.wr (by decide)
  refine j_aload_n X jd_La_init_19 rfl rfl ?_
  refine j_bipush (v := 40) X jd_La_init_20 (by decide) ?_
  refine j_newI (N := 40) X hB3 (by decide) js_151 (by decide) (by decide) (by decide) (by rw [hRc]; decide) (by rw [hRs]; decide) jd_La_init_22 ?_
  have hB4 : j_Bl 152 I3 P := hB3.le (by decide)
  refine j_putr X jt_La jto_La jn_La jf_La_19 jk_6_3 js_150 (by decide) (Or.inr ⟨rfl, hnm, rfl⟩) rfl rfl rfl jd_La_init_24 ?_
  generalize hP5 : j_wp P 150 3 (some 151) = P5
  have hB5 : j_Bl 152 I3 P5 := hP5 ▸ hB4.wp (by decide)
  refine j_aload_n X jd_La_init_27 rfl rfl ?_
  refine j_bipush (v := 40) X jd_La_init_28 (by decide) ?_
  refine j_newI (N := 40) X hB5 (by decide) js_152 (by decide) (by decide) (by decide) (by rw [hRc]; decide) (by rw [hRs]; decide) jd_La_init_30 ?_
  have hB6 : j_Bl 153 I3 P5 := hB5.le (by decide)
  refine j_putr X jt_La jto_La jn_La jf_La_23 jk_6_4 js_150 (by decide) (Or.inr ⟨rfl, hnm, rfl⟩) rfl rfl rfl jd_La_init_32 ?_
  generalize hP7 : j_wp P5 150 4 (some 152) = P7
  have hB7 : j_Bl 153 I3 P7 := hP7 ▸ hB6.wp (by decide)
  refine j_aload_n X jd_La_init_35 rfl rfl ?_
  refine j_bipush (v := 40) X jd_La_init_36 (by decide) ?_
  refine j_bipush (v := 40) X jd_La_init_38 (by decide) ?_
  refine j_mna (N := 40) (K := 40) X hO hB7 (by decide) jlk_La_26 js_153 (fun j hj => jsp_154 hj) (by decide) (by decide) (by decide) (by decide) (by decide) (by decide) (by decide) (by rw [hRc]; decide) (by rw [hRs]; decide) jd_La_init_40 ?_
  generalize hP8 : j_wq P7 153 40 = P8
  have hB8 : j_Bl 194 I3 P8 := ⟨fun c hc => hB7.1 c (by omega), fun c hc => by rw [← hP8, j_wq_cell _ _ (by omega)]; exact hB7.2 c (by omega)⟩
  refine j_putr X jt_La jto_La jn_La jf_La_28 jk_6_5 js_150 (by decide) (Or.inr ⟨rfl, hnm, rfl⟩) rfl rfl rfl jd_La_init_44 ?_
  generalize hP9 : j_wp P8 150 5 (some 153) = P9
  have hB9 : j_Bl 194 I3 P9 := hP9 ▸ hB8.wp (by decide)
  have hF : j_Fx 150 194 P9 := by
    subst hP5 hP7 hP8 hP9
    refine ⟨fun q hq h1 h2 => ?_, fun q hq h1 h2 i hi => ?_⟩
    · have e : j_pfL.filter (fun q => decide (150 ≤ q.1 ∧ q.1 < 194)) = [(150, 3, 151), (150, 4, 152), (150, 5, 153)] := by decide
      have hm : q ∈ [((150, 3, 151) : Nat × Nat × Nat), ((150, 4, 152) : Nat × Nat × Nat), ((150, 5, 153) : Nat × Nat × Nat)] := by rw [← e]; exact List.mem_filter.mpr ⟨hq, decide_eq_true ⟨h1, h2⟩⟩
      simp only [List.mem_cons, List.not_mem_nil, or_false] at hm
      rcases hm with rfl | rfl | rfl <;> simp [j_wp, j_wq]
    · have e : j_paL.filter (fun q => decide (150 ≤ q.1 ∧ q.1 < 194)) = [(153, 154, 40)] := by decide
      have hm : q ∈ [((153, 154, 40) : Nat × Nat × Nat)] := by rw [← e]; exact List.mem_filter.mpr ⟨hq, decide_eq_true ⟨h1, h2⟩⟩
      simp only [List.mem_cons, List.not_mem_nil, or_false] at hm
      rcases hm with rfl; simp [j_wp, j_wq, show i < 40 from hi]
  refine j_iconst (v := 0) X jd_La_init_47 (by decide) ?_
  refine j_istore_n (lv' := [some (.ref (b + 150)), some (.int 0), none]) X jd_La_init_48 rfl (by decide) rfl ?_
  have hne1 : ∀ c, c ≠ 150 → I3 c = I c := fun c hc => by
    subst hI1 hI2 hI3
    simp [j_wr_cell _ _ _ hc]
  refine k_La_init_49 (I0 := I3) X (Nat.le_refl 194) (hF.1 (150, 5, 153) (by decide) (by decide) (by decide)) (hF.2 (153, 154, 40) (by decide) (by decide) (by decide)) (fun I9 h9 => ?_) 40 0 I3 rfl ⟨fun _ _ _ => rfl, fun x hx => absurd hx (by omega), fun k hk => absurd hk (by omega)⟩
  have hx9 : ∀ c, (c < 154 ∨ 194 ≤ c) → I9 c = I3 c := fun c hc => funext fun k => h9.1 c k (by omega)
  refine j_vretC X rfl ⟨⟨fun c hc => (hx9 c (Or.inr hc)).trans (hB9.1 c hc), hB9.2⟩, fun c hc => ⟨(hx9 c (by omega)).trans (hne1 c (by omega)), ?_⟩, hF, fun c h1 h2 => ?_⟩ jd_La_init_94
  · have hne : c ≠ 150 := by omega
    have hne2 : c ≠ 153 := by omega
    subst hP5 hP7 hP8 hP9
    simp [j_wp_cell _ _ _ hne, j_wq_cell _ _ hne2]
  · by_cases hw : 154 ≤ c
    · obtain ⟨a, rfl⟩ : ∃ a, c = 154 + a := ⟨c - 154, by omega⟩
      have ha : a < 40 := by omega
      funext k
      by_cases hk : k < 40
      · exact h9.2.1 a ha k hk
      · rw [h9.1 (154 + a) k (by omega), hne1 (154 + a) (by omega), hBt.1 (154 + a) (by omega)]
        unfold jIf
        rw [if_neg (by omega), if_neg (by omega), if_pos (by omega), if_neg hk]
        simp [jI0, show 154 + a ≠ 208 by omega]
    · rw [hx9 c (by omega)]
      by_cases e : c = 150
      · subst e
        have h0 := hBt.1 150 (by omega)
        subst hI1 hI2 hI3
        funext k
        simp only [j_wr, true_and, h0]
        simp [jI0, jIf]
        repeat' split
        all_goals (first | rfl | omega | simp_all)
      · rw [hne1 c e, jIf_plain (by omega)]; exact hBt.1 c h1
