/-! closing a night -/
theorem l_wetN {F m : Nat} {J : j_M} (hF : 20000000 < F) (hm : m < 480) : ∃ r, r ≤ 480 ∧ f_Sk_wetMinutes F 0 (nI m) J = some (nI r, J) := by
  refine ⟨p_sum (fun k => if J 39 k = 0 then 0 else 1) (m + 1), ?_, ?_⟩
  · have := p_sum_le (f := fun k => if J 39 k = 0 then 0 else 1) (B := 1) (n := m + 1) (fun p _ => by split <;> omega)
    omega
  · unfold f_Sk_wetMinutes f_Sk_wetMinutes_5
    refine j_it_run (r := some (nI (p_sum (fun k => if J 39 k = 0 then 0 else 1) (m + 1)), J)) (fun i => (nI m, nI (p_sum (fun k => if J 39 k = 0 then 0 else 1) i), nI i, J)) (m + 1) (fun i hi g => ?_) (fun g => ?_) F 0 (by omega) (by omega)
    · dsimp only
      unfold f_Sk_wetMinutes_5b f_Sk_wetMinutes_26
      rw [if_neg (nI_nlt (show i ≤ m by omega) (by omega)), e_rains (by omega), j_bdS]
      simp only [j_letE]
      rw [p_sum]
      by_cases z : J 39 i = 0
      · rw [if_pos z, if_pos z, if_pos rfl, Int32.add_zero, nI_1]; rfl
      · rw [if_neg z, if_neg z, if_neg (by decide), nI_1, nI_1]
    · dsimp only
      unfold f_Sk_wetMinutes_5b
      rw [if_pos (nI_lt (by omega) (by omega))]
theorem l_came {F np : Nat} {J : j_M} (hF : 20000000 < F) (a1 : J 41 0 = nI np) (hnp : np ≤ 100) : f_Gu_headsThatCame F J = some (bx_sum (fun j => vw 43 100 J j 1) np, J) := by
  unfold f_Gu_headsThatCame f_Gu_headsThatCame_4
  refine j_it_run (r := some (bx_sum (fun j => vw 43 100 J j 1) np, J)) (fun i => (bx_sum (fun j => vw 43 100 J j 1) i, nI i, J)) np (fun i hi g => ?_) (fun g => ?_) F 0 (by omega) (by omega)
  · dsimp only
    unfold f_Gu_headsThatCame_4b
    rw [a1, if_neg (nI_ge hi (by omega)), if_pos (j_ok_nI (show i < 100 by omega) (by decide)), j_ix_nI (by omega), vw_at (lo := 43) (I := J) (show i < 100 by omega)]
    simp only [j_letE, nI_1]
    rfl
  · dsimp only
    unfold f_Gu_headsThatCame_4b
    rw [a1, if_pos (nI_le (Nat.le_refl _) (by omega))]
theorem e_clear {F : Nat} {J : j_M} (hF : 20000000 < F) : f_Sk_clear F J = some (0, j_rw (j_wr J 38 0 0) 39 (fun m => if m < 480 then 0 else J 39 m)) := by
  unfold f_Sk_clear f_Sk_clear_7
  simp only [j_letE]
  have h0 : ((0 : Int32), j_wr J 38 0 0) = (nI 0, j_rw (j_wr J 38 0 0) 39 (fun m => if m < 0 then 0 else J 39 m)) := by
    rw [show (fun m => if m < 0 then (0 : Int32) else J 39 m) = j_wr J 38 0 0 39 from by funext m; exact if_neg (Nat.not_lt_zero m), rw_self]; rfl
  rw [h0]
  refine j_it_run (r := some (0, j_rw (j_wr J 38 0 0) 39 (fun m => if m < 480 then 0 else J 39 m))) (fun i => (nI i, j_rw (j_wr J 38 0 0) 39 (fun m => if m < i then 0 else J 39 m))) 480 (fun i hi g => ?_) (fun g => ?_) F 0 (by omega) (by omega)
  · dsimp only
    unfold f_Sk_clear_7b
    rw [if_neg (show ¬ (480 : Int32) ≤ nI _ from nI_ge (b := 480) hi (by decide)), if_pos (j_ok_nI hi (by decide)), j_ix_nI (by omega)]
    simp only [j_letE, nI_1, rw_wr]
    congr 3
    funext m
    unfold upd
    by_cases e : m = i
    · rw [if_pos e, if_pos (by omega)]; rfl
    · rw [if_neg e]
      dsimp only
      by_cases e2 : m < i
      · rw [if_pos e2, if_pos (by omega)]
      · rw [if_neg e2, if_neg (by omega)]
  · dsimp only
    unfold f_Sk_clear_7b
    rw [if_pos (show (480 : Int32) ≤ nI _ from nI_le (a := 480) (Nat.le_refl _) (by decide))]
abbrev j_bn (J : j_M) : j_M := j_wr (j_wr (j_wr (j_wr (j_wr (j_wr (j_rw (j_wr (j_wr (j_wr (j_wr J 0 11 0) 0 13 0) 0 14 0) 38 0 0) 39 (fun m => if m < 480 then 0 else J 39 m)) 41 0 0) 198 4 0) 150 2 (-1)) 143 0 0) 143 1 0) 143 6 0
theorem e_begin {F : Nat} {J : j_M} (hF : 20000000 < F) : f_G_beginNight F J = some (0, j_bn J) := by
  unfold f_G_beginNight f_La_putOut f_Wa_clear
  simp only [j_letE, j_bdS]
  rw [e_clear hF]
  rfl
abbrev j_kp (J : j_M) (n : Nat) (x1 x2 x3 : Int32) : j_M := j_wr (j_wr (j_wr (j_wr J 212 n x1) 213 n x2) 214 n x3) 211 0 (nI (n + 1))
theorem e_keepL {F n : Nat} {J : j_M} {x1 x2 x3 : Int32} (hn : n < 200) (h : J 211 0 = nI n) : f_Le_keep F x1 x2 x3 J = some (0, j_kp J n x1 x2 x3) := by
  unfold f_Le_keep
  simp (disch := decide) only [j_letE, j_wr_cell, h, j_ok_nI hn (show (200 : Nat) < 2 ^ 31 by decide), j_ix_nI (show n < 2 ^ 31 by omega), if_true]
  rw [if_neg (show ¬ (200 : Int32) ≤ nI _ from nI_ge (b := 200) hn (by decide)), nI_1]
abbrev k_cl (K : j_M) (n : Nat) (x1 x2 x3 : Int32) : j_M := j_wr (j_wr (j_wr (j_wr (j_wr (j_wr (j_wr (j_wr (j_wr (j_wr (j_wr (j_wr K 255 n x1) 256 n x2) 257 n x3) 215 1 (nI (n + 1))) 215 2 0) 215 7 0) 215 12 0) 215 46 0) 215 36 0) 215 68 0) 215 25 0) 215 26 0
theorem rr_close {F : Nat} {s : Nat → Nat} {J K : j_M} {x2 x3 : Int32} {r : Nat} (hr : RR F s J K) (hn : s 3 < 199) (hr4 : r ≤ 480) (h3 : ∀ j, j < s 1 → vw 43 100 J j 3 = 2) (ex2 : x2 = nI r) : RR F (p_up (p_up (p_up (p_up (p_up (p_up (p_up (p_up s 1 0) 2 0) 3 (s 3 + 1)) 4 0) 8 0) 11 0) 12 0) 15 0) (j_bn (j_wr (j_kp J (s 3) (J 0 14) x2 x3) 0 10 (J 0 10 + 1))) (k_cl K (s 3) (K 215 26) x2 x3) := by
  obtain ⟨a0, b0, c0, a1, b1, c1, a2, b2, c2, a3, b3, c3, d3, a4, b4, c4, a5, b5, c5, a6, b6, c6, a7, b7, c7, a8, b8, c8, a9, b9, c9, a10, b10, c10, a11, b11, c11, a12, a15, c15, a14, b14, c14, e1, e2, e3, e4, e5, e6, r1, r2, r3, r4, r5, r6, r7, r8, r9, r10, r11, r12, r13, r14, r15, r16, r17, hwk, hso, hrn, hnu, hpt, hrg, hbx, hor, hsa, hsb, hsc, hsn, hwz, hth, hla, hli, hlt, hpr, hby, htp, hrm, hhd, hlr, hK⟩ := hr
  have z : ∀ {i : Nat} {C : Prop}, i < 0 → C := fun h => absurd h (Nat.not_lt_zero _)
  exact ⟨a0, b0, c0, rfl, rfl, (Nat.zero_le _), rfl, rfl, (show 0 < 480 by decide), (show J 0 10 + 1 = nI (s 3 + 1) by rw [a3, nI_1]), rfl, (show s 3 + 1 < 200 by omega), rfl, rfl, rfl, (Nat.zero_le _), a5, b5, c5, a6, b6, c6, a7, b7, c7, rfl, rfl, (Nat.zero_le _), a9, b9, c9, a10, b10, c10, rfl, rfl, (Nat.zero_le _), rfl, rfl, (Nat.zero_le _), a14, b14, c14, e1, rfl, rfl, e4, e5, e6, r1, r2, r3, r4, r5, r6, r7, r8, r9, r10, r11, r12, (row_eq r13 rfl e3), (row_eq r14 rfl rfl), (row_eq r15 rfl rfl), r16, r17, (by (try simp (disch := decide) only [vw_wr, vw_rw, vw_jvo]); exact hwk), hso, (fun m hm => (by
      show ((if m < 480 then (0 : Int32) else J 39 m) = 0 ∨ _) ∧ ((if m < 480 then (0 : Int32) else J 39 m) = 1 ↔ _)
      rw [if_pos hm]
      exact ⟨Or.inl rfl, fun q => absurd q (by decide), fun ⟨k, hk, _⟩ => z hk⟩)), (by (try simp (disch := decide) only [vw_wr, vw_rw, vw_jvo]); exact hnu), (fun i hi => z hi), (fun i hi => z hi), (by
      simp (disch := decide) only [vw_wr, vw_rw]
      intro b hb
      rcases hbx b hb with ⟨u1, u2⟩ | ⟨t, u1, u2, u3, u4⟩
      · exact Or.inl ⟨u1, fun i hi => z hi⟩
      · have := (hrg t u1).2.2.2.2 (h3 t u1)
        rw [u3] at this
        have hb2 : b < s 7 := hb
        exact absurd this (nI_nem (by omega))), (fun k hk => z hk), (fun p hp => z hp), (fun t ht => z ht), (fun p hp => z hp), (Nat.zero_le _), (fun p h1 h2 h3 => absurd rfl h3), (fun k hk => z hk), (by (try simp (disch := decide) only [vw_wr, vw_rw, vw_jvo]); exact hla), hli, (Or.inl ⟨rfl, rfl⟩), hpr, hby, htp, hrm, (fun i hi => z hi), (show R_lr (s 3 + 1) (j_wr J 213 (s 3) x2 213) from fun q hq => (by
      by_cases e : q = s 3
      · subst e; rw [j_wr_same]; exact ⟨r, hr4, ex2⟩
      · rw [j_wr_idx _ _ _ e]; exact hlr q (by omega))), hK⟩
theorem op_close (F : Nat) (hF : 20000000 < F) : OP F (f_G_close F) (f_M_close F) := by
  intro s J K hs h
  have h0 := h
  obtain ⟨hr, h1, h2⟩ := h
  unfold f_G_close f_M_close
  rw [RR_a3 hr, RR_b3 hr]
  by_cases hn : s 3 < 199
  · refine wp2_Lp (nI_lt (b := 199) hn (by decide)) (wp2_Rn (nI_ne (b := 199) (by omega) (by omega) (by decide)) ?_)
    have c1 := RR_c1 hr
    unfold f_G_close_15 f_M_close_17
    refine j_it2 (Inv := fun k q r => ∃ i s' J' K', i + k = s 1 ∧ q = (nI i, J') ∧ r = (bx_sum (fun j => vw 43 100 J j 1) i, nI i, K') ∧ (∀ k, k ≠ 8 → s' k = s k) ∧ RR F s' J' K' ∧ (∀ j, vw 43 100 J' j 1 = vw 43 100 J j 1) ∧ (∀ j, j < i → vw 43 100 J' j 3 = 2) ∧ frJ J J' ∧ frK K K') ?_ F (s 1) _ _ (by omega) ⟨0, s, J, K, by omega, rfl, rfl, fun _ _ => rfl, hr, fun _ => rfl, fun j hj => absurd hj (by omega), frJ_rf _, frK_rf _⟩
    intro k q r g1 g2 hq hag
    obtain ⟨i, s', J', K', hi, rfl, rfl, hss, hr', hv1, hv3, f1, f2⟩ := hq
    have hr2 := hr'
    dsimp only
    unfold f_G_close_15b f_M_close_17b
    have s1 : s' 1 = s 1 := hss 1 (by decide)
    have a1 : J' 41 0 = nI (s 1) := by rw [RR_a1 hr', s1]
    have b1 : K' 215 12 = nI (s 1) := by rw [RR_b1 hr', s1]
    rw [a1, b1]
    by_cases e : i = s 1
    · have c : nI (s 1) ≤ nI i := nI_le (by omega) (by omega)
      refine wp2_Lp c (wp2_Rp c ?_)
      simp only [j_letE]
      have s3 : s' 3 = s 3 := hss 3 (by decide)
      have b3 : K' 215 1 = nI (s 3) := by rw [RR_b3 hr', s3]
      have c2 := RR_c2 hr'
      obtain ⟨w, hw, ew⟩ := l_wetN (J := J') hF c2
      have hrs : f_M_rainSince F 0 (j_wr K' 255 (s 3) (K' 215 26)) = some (nI w, j_wr K' 255 (s 3) (K' 215 26)) := by
        obtain ⟨v, Jx, w2, Kx, y1, y2, rfl, rfl, rfl⟩ := l_wet (c := 0) (J := J') (K := j_wr K' 255 (s 3) (K' 215 26)) (r := s' 4) hF (Nat.zero_le _) c2 (show R_rn (s' 4) (J' 39) (K' 219) (K' 220) from RR_hrn hr') (RR_c4 hr') (show K' 215 7 = nI (s' 4) from RR_b4 hr') (show K' 215 2 = nI (s' 2) from RR_b2 hr')
        have y3 : f_Sk_wetMinutes F 0 (nI (s' 2)) Jx = some (v, Jx) := y1
        rw [ew] at y3
        have y4 : nI w = v := congrArg Prod.fst (Option.some.inj y3)
        rw [y4]
        exact y2
      have o : j_ok (nI (s 3)) 200 = true := j_ok_nI (by omega) (by decide)
      rw [RR_a2 hr', ew, j_bdS, l_came (np := s 1) hF a1 c1, j_bdS, e_keepL (n := s 3) (by omega) (by rw [RR_d3 hr', s3]), j_bdS, e_begin hF, j_bdS]
      simp only [b3, o, if_true, j_ix_nI (show s 3 < 2 ^ 31 by omega), hrs, j_bdS]
      simp (disch := decide) only [j_wr_cell, b3, o, if_true, j_ix_nI (show s 3 < 2 ^ 31 by omega), nI_1]
      subst e
      have hh : (fun j => vw 43 100 J' j 1) = (fun j => vw 43 100 J j 1) := by funext j; exact hv1 j
      rw [hh]
      have fin := rr_close (x2 := nI w) (x3 := bx_sum (fun j => vw 43 100 J j 1) (s 1)) (r := w) hr2 (by omega) hw (fun j hj => hv3 j (by omega)) rfl
      rw [s3] at fin
      refine wp2_mk rfl rfl (op_fin hs ?_ (RR_e3 hr2) ?_ ?_ ⟨fin, ?_, ?_⟩)
      · exact hss 13 (by decide)
      · refine frJ_tr f1 ?_
        exact frJ_wr (by decide) (frJ_wr (by decide) (frJ_wr (by decide) (frJ_wr (by decide) (frJ_wr (by decide) (frJ_wr (by decide) (frJ_rw (by decide) (frJ_wr (by decide) (frJ_wr (by decide) (frJ_wr (by decide) (frJ_wr (by decide) (frJ_wr (by decide) (frJ_wr (by decide) (frJ_wr (by decide) (frJ_wr (by decide) (frJ_wr (by decide) (frJ_rf _))))))))))))))))
      · refine frK_tr f2 ?_
        exact frK_wr (by decide) (frK_wr (by decide) (frK_wr (by decide) (frK_wr (by decide) (frK_wr (by decide) (frK_wr (by decide) (frK_wr (by decide) (frK_wr (by decide) (frK_wr (by decide) (frK_wr (by decide) (frK_wr (by decide) (frK_wr (by decide) (frK_rf _))))))))))))
      · exact fun j hj => absurd hj (Nat.not_lt_zero _)
      · rfl
    · have c : ¬ nI (s 1) ≤ nI i := nI_ge (by omega) (by omega)
      have i100 : i < 100 := by omega
      have o : j_ok (nI i) 100 = true := j_ok_nI i100 (by decide)
      refine wp2_Ln c (wp2_Rn c (wp2_Lp o (wp2_Rp o ?_)))
      have hi' : i < s' 1 := by omega
      obtain ⟨p1, p2, p3, -⟩ := RR_hpt hr' i hi'
      unfold f_Pa_isIn f_G_close_55 f_M_close_49
      simp only [j_letE, o, if_true, j_ix_nI (show i < 2 ^ 31 by omega), nI_1, vw_at i100, p3, ← p1, hv1]
      have nx : ∀ s'' J'' K'', (∀ k, k ≠ 8 → s'' k = s k) → RR F s'' J'' K'' → (∀ j, vw 43 100 J'' j 1 = vw 43 100 J j 1) → (∀ j, j < i + 1 → vw 43 100 J'' j 3 = 2) → frJ J J'' → frK K K'' → j_wp2 (g1 (nI (i + 1), J'')) (g2 (bx_sum (fun j => vw 43 100 J j 1) i + vw 43 100 J i 1, nI (i + 1), K'')) (OPQ F s J K) := fun s'' J'' K'' y1 y2 y3 y4 y5 y6 => hag _ _ (k - 1) (by omega) ⟨i + 1, s'', J'', K'', by omega, rfl, rfl, y1, y2, y3, y4, y5, y6⟩
      by_cases z : K' 225 i = 2
      · rw [if_pos z, if_pos z, j_bdS]
        refine wp2_Lp rfl (nx s' J' K' hss hr' hv1 (fun j hj => ?_) f1 f2)
        by_cases ej : j = i
        · rw [ej, p3, z]
        · exact hv3 j (by omega)
      · rw [if_neg z, if_neg z, j_bdS]
        refine wp2_Ln (by decide) (wp2_bd (wp2_mono (pr_out hF hr' hi' (by rw [p3]; exact z)) ?_))
        rintro v J'' w K'' ⟨s'', t1, t2, t3, t4, t5, t6⟩
        refine nx s'' J'' K'' (fun k hk => (t1 k hk).trans (hss k hk)) t2 (fun j => ?_) (fun j hj => ?_) (frJ_tr f1 t5) (frK_tr f2 t6)
        · rw [t4, ← hv1 j]; rfl
        · rw [t4]
          by_cases ej : j = i
          · subst ej
            exact vup_at (vup (vup (vw 43 100 J') j 8 v) j 6 (-1)) j 3 2
          · rw [vup_ne _ _ _ _ ej, vup_ne _ _ _ _ ej, vup_ne _ _ _ _ ej, vup_ne _ _ _ _ ej, vup_ne _ _ _ _ ej]
            exact hv3 j (by omega)
  · have : s 3 = 199 := by have := RR_c3 hr; omega
    exact wp2_Ln (by rw [this]; decide) (wp2_Rp (by rw [this]; rfl) (wp2_mk rfl rfl (op_idle hs h0 rfl)))
