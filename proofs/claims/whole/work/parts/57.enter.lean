/-! entering -/
theorem jvw_jvw {J : j_M} {lo hi : Nat} {V W : Nat → Nat → Int32} : jvw (jvw J lo hi V) lo hi W = jvw J lo hi W := by
  funext c
  unfold jvw
  by_cases e : lo ≤ c ∧ c < lo + hi
  · rw [if_pos e, if_pos e]
  · rw [if_neg e, if_neg e, if_neg e]
abbrev p_bg (P : Nat → Nat → Int32) (i : Nat) (x1 x2 mi : Int32) : Nat → Nat → Int32 := vup (vup (vup (vup (vup (vup (vup P i 2 x1) i 1 x2) i 10 mi) i 6 (-1)) i 7 0) i 8 0) i 9 0
abbrev p_en (P : Nat → Nat → Int32) (i : Nat) (x1 x2 mi ns : Int32) : Nat → Nat → Int32 := vup (vup (vup (vup (p_bg P i x1 x2 mi) i 3 0) i 4 0) i 5 (-1)) i 11 ns
abbrev j_nt (J : j_M) (np ns : Nat) : j_M := j_wr (j_wr (j_wr (j_wr (j_wr (j_wr J 41 0 (nI (np + 1))) 144 ns (nI np)) 145 ns 0) 146 ns (J 143 0)) 147 ns 480) 143 1 (nI (ns + 1))
abbrev k_nt (K : j_M) (i : Nat) (x1 x2 : Int32) : j_M := j_wr (j_wr (j_wr (j_wr (j_wr (j_wr (j_wr (j_wr (j_wr (j_wr K 223 i x2) 224 i x1) 225 i 0) 226 i 0) 227 i (-1)) 228 i (-1)) 230 i 0) 231 i 0) 232 i (K 215 2)) 215 12 (K 215 12 + 1)
theorem e_add {F np : Nat} {x1 x2 x3 : Int32} {J : j_M} (hnp : np < 100) (a1 : J 41 0 = nI np) : f_Gu_add F x1 x2 x3 J = some (np, jvw (j_wr J 41 0 (nI (np + 1))) 43 100 (p_bg (vw 43 100 J) np x1 x2 x3)) := by
  unfold f_Gu_add f_Pa_begin
  rw [a1, if_pos (j_ok_nI hnp (by decide)), j_ix_nI (by omega)]
  simp only [j_letE, j_bdS]
  rw [jvw_wr1 (lo := 43) (hi := 100) (J := J) (k := 2) hnp, jvw_wr2 (lo := 43) (hi := 100) hnp, jvw_wr2 (lo := 43) (hi := 100) hnp, jvw_wr2 (lo := 43) (hi := 100) hnp, jvw_wr2 (lo := 43) (hi := 100) hnp, jvw_wr2 (lo := 43) (hi := 100) hnp, jvw_wr2 (lo := 43) (hi := 100) hnp, jvw_out (by decide), a1, nI_1, jvw_wr3 (by decide)]
theorem e_enS {F np ns : Nat} {x1 x2 x3 : Int32} {J : j_M} (hnp : np < 100) (hnu : vw 43 100 J np 0 = nI np) (a12 : J 143 1 = nI ns) (hns : ns < 1040) : f_G_settle F np 0 (jvw (j_wr J 41 0 (nI (np + 1))) 43 100 (p_bg (vw 43 100 J) np x1 x2 x3)) = some (0, jvw (j_nt J np ns) 43 100 (p_en (vw 43 100 J) np x1 x2 x3 (nI ns))) := by
  have hv : v0 100 (p_bg (vw 43 100 J) np x1 x2 x3) := v0_up (v0_up (v0_up (v0_up (v0_up (v0_up (v0_up (v0_vw _ _ _) hnp) hnp) hnp) hnp) hnp) hnp) hnp
  rw [e_settle (J := jvw (j_wr J 41 0 (nI (np + 1))) 43 100 (p_bg (vw 43 100 J) np x1 x2 x3)) (ns := ns) hnp (by rw [vw_jvw hv]; exact hnu) a12 hns, vw_jvw hv]
  simp (disch := decide) only [jvw_wr3, jvw_out]
  rw [jvw_jvw]
  rfl
theorem bx_en {np nb : Nat} {P P' : Nat → Nat → Int32} {g : Nat → Int32} (h : R_bx np nb P g) (hP : ∀ p, p < np → P' p 6 = P p 6) (h6 : P' np 6 = -1) (hnb : nb ≤ 20) : R_bx (np + 1) nb P' g := by
  have hk : ∀ b j, b < nb → j < np + 1 → P' j 6 = nI b → j < np ∧ P j 6 = nI b := by
    intro b j hb hj z
    by_cases e : j = np
    · subst e; rw [h6] at z; exact absurd z.symm (nI_nem (by omega))
    · have hj2 : j < np := by omega
      rw [hP j hj2] at z
      exact ⟨hj2, z⟩
  intro b hb
  rcases h b hb with ⟨u1, u2⟩ | ⟨t, u1, u2, u3, u4⟩
  · exact Or.inl ⟨u1, fun j hj z => u2 j (hk b j hb hj z).1 (hk b j hb hj z).2⟩
  · exact Or.inr ⟨t, by omega, u2, by rw [hP t u1]; exact u3, fun j hj z => u4 j (hk b j hb hj z).1 (hk b j hb hj z).2⟩
theorem rr_enter {F : Nat} {s : Nat → Nat} {J K : j_M} {x1 x2 : Int32} (hr : RR F s J K) (hnp : s 1 < 100) (hn : 0 < s 0) (h15 : s 15 = if s 2 = 0 then 0 else s 2 + 1) (hs : s 13 < 512) (hx2 : ∃ k, k ≤ 20 ∧ x2 = nI k) (v : Int32) : RR F (p_up (p_up (p_up s 1 (s 1 + 1)) 12 (s 12 + 1)) 13 (s 13 + 1)) (jvw (j_wr (j_nt J (s 1) (s 12)) 0 14 (J 0 14 + v)) 43 100 (vup (p_en (vw 43 100 J) (s 1) x1 x2 (nI (s 2)) (nI (s 12))) (s 1) 7 v)) (j_wr (j_wr (k_nt K (s 1) x1 x2) 229 (s 1) v) 215 26 (K 215 26 + v)) := by
  have hns := R_ns hr
  obtain ⟨a0, b0, c0, a1, b1, c1, a2, b2, c2, a3, b3, c3, d3, a4, b4, c4, a5, b5, c5, a6, b6, c6, a7, b7, c7, a8, b8, c8, a9, b9, c9, a10, b10, c10, a11, b11, c11, a12, a15, c15, a14, b14, c14, e1, e2, e3, e4, e5, e6, r1, r2, r3, r4, r5, r6, r7, r8, r9, r10, r11, r12, r13, r14, r15, r16, r17, hwk, hso, hrn, hnu, hpt, hrg, hbx, hor, hsa, hsb, hsc, hsn, hwz, hth, hla, hli, hlt, hpr, hby, htp, hrm, hhd, hlr, hK⟩ := hr
  have hv0 : v0 100 (vup (p_en (vw 43 100 J) (s 1) x1 x2 (nI (s 2)) (nI (s 12))) (s 1) 7 v) := v0_up (v0_up (v0_up (v0_up (v0_up (v0_up (v0_up (v0_up (v0_up (v0_up (v0_up (v0_up (v0_vw _ _ _) hnp) hnp) hnp) hnp) hnp) hnp) hnp) hnp) hnp) hnp) hnp) hnp
  have hoth : ∀ p f, p ≠ s 1 → vup (p_en (vw 43 100 J) (s 1) x1 x2 (nI (s 2)) (nI (s 12))) (s 1) 7 v p f = vw 43 100 J p f := fun p f e => by
    simp only [p_en, p_bg, vup_ne _ _ _ _ e]
  have u0 : vup (p_en (vw 43 100 J) (s 1) x1 x2 (nI (s 2)) (nI (s 12))) (s 1) 7 v (s 1) 0 = vw 43 100 J (s 1) 0 := rfl
  have u1 : vup (p_en (vw 43 100 J) (s 1) x1 x2 (nI (s 2)) (nI (s 12))) (s 1) 7 v (s 1) 1 = x2 := vup_at (vup (vw 43 100 J) (s 1) 2 x1) (s 1) 1 x2
  have u2 : vup (p_en (vw 43 100 J) (s 1) x1 x2 (nI (s 2)) (nI (s 12))) (s 1) 7 v (s 1) 2 = x1 := vup_at (vw 43 100 J) (s 1) 2 x1
  have u3 : vup (p_en (vw 43 100 J) (s 1) x1 x2 (nI (s 2)) (nI (s 12))) (s 1) 7 v (s 1) 3 = 0 := vup_at (p_bg (vw 43 100 J) (s 1) x1 x2 (nI (s 2))) (s 1) 3 0
  have u4 : vup (p_en (vw 43 100 J) (s 1) x1 x2 (nI (s 2)) (nI (s 12))) (s 1) 7 v (s 1) 4 = 0 := vup_at (vup (p_bg (vw 43 100 J) (s 1) x1 x2 (nI (s 2))) (s 1) 3 0) (s 1) 4 0
  have u5 : vup (p_en (vw 43 100 J) (s 1) x1 x2 (nI (s 2)) (nI (s 12))) (s 1) 7 v (s 1) 5 = -1 := vup_at (vup (vup (p_bg (vw 43 100 J) (s 1) x1 x2 (nI (s 2))) (s 1) 3 0) (s 1) 4 0) (s 1) 5 (-1)
  have u6 : vup (p_en (vw 43 100 J) (s 1) x1 x2 (nI (s 2)) (nI (s 12))) (s 1) 7 v (s 1) 6 = -1 := vup_at (vup (vup (vup (vw 43 100 J) (s 1) 2 x1) (s 1) 1 x2) (s 1) 10 (nI (s 2))) (s 1) 6 (-1)
  have u7 : vup (p_en (vw 43 100 J) (s 1) x1 x2 (nI (s 2)) (nI (s 12))) (s 1) 7 v (s 1) 7 = v := vup_at _ (s 1) 7 v
  have u8 : vup (p_en (vw 43 100 J) (s 1) x1 x2 (nI (s 2)) (nI (s 12))) (s 1) 7 v (s 1) 8 = 0 := vup_at (vup (vup (vup (vup (vup (vw 43 100 J) (s 1) 2 x1) (s 1) 1 x2) (s 1) 10 (nI (s 2))) (s 1) 6 (-1)) (s 1) 7 0) (s 1) 8 0
  have u9 : vup (p_en (vw 43 100 J) (s 1) x1 x2 (nI (s 2)) (nI (s 12))) (s 1) 7 v (s 1) 9 = 0 := vup_at (vup (vup (vup (vup (vup (vup (vw 43 100 J) (s 1) 2 x1) (s 1) 1 x2) (s 1) 10 (nI (s 2))) (s 1) 6 (-1)) (s 1) 7 0) (s 1) 8 0) (s 1) 9 0
  have u10 : vup (p_en (vw 43 100 J) (s 1) x1 x2 (nI (s 2)) (nI (s 12))) (s 1) 7 v (s 1) 10 = nI (s 2) := vup_at (vup (vup (vw 43 100 J) (s 1) 2 x1) (s 1) 1 x2) (s 1) 10 (nI (s 2))
  have u11 : vup (p_en (vw 43 100 J) (s 1) x1 x2 (nI (s 2)) (nI (s 12))) (s 1) 7 v (s 1) 11 = nI (s 12) := vup_at (vup (vup (vup (p_bg (vw 43 100 J) (s 1) x1 x2 (nI (s 2))) (s 1) 3 0) (s 1) 4 0) (s 1) 5 (-1)) (s 1) 11 (nI (s 12))
  generalize vup (p_en (vw 43 100 J) (s 1) x1 x2 (nI (s 2)) (nI (s 12))) (s 1) 7 v = P' at hv0 hoth u0 u1 u2 u3 u4 u5 u6 u7 u8 u9 u10 u11 ⊢
  have kI : ∀ j, j < s 1 + 1 → ¬ j = s 1 → j < s 1 := fun j h1 h2 => by omega
  exact ⟨a0, b0, c0, rfl, (show K 215 12 + 1 = nI (s 1 + 1) by rw [b1, nI_1]), hnp, a2, b2, c2, a3, b3, c3, d3, a4, b4, c4, a5, b5, c5, a6, b6, c6, a7, b7, c7, a8, b8, c8, a9, b9, c9, a10, b10, c10, a11, b11, c11, rfl, a15, c15, a14, b14, c14, e1, e2, (show J 0 14 + v = K 215 26 + v by rw [e3]), e4, e5, e6, r1, r2, r3, r4, r5, r6, r7, r8, r9, r10, r11, r12, r13, r14, r15, r16, r17, (by (try simp (disch := decide) only [vw_wr, vw_rw, vw_jvo]); exact hwk), hso, hrn, (by (try simp (disch := decide) only [vw_wr, vw_rw]); rw [vw_jvw (by assumption)]; exact (show R_nu P' from fun i hi => (by
      by_cases e : i = s 1
      · subst e; rw [u0]; exact hnu _ hi
      · rw [hoth i 0 e]; exact hnu i hi))), (by (try simp (disch := decide) only [vw_wr, vw_rw]); rw [vw_jvw (by assumption)]; exact (show R_pt (s 1 + 1) P' (j_wr K 223 (s 1) x2 223) (j_wr K 224 (s 1) x1 224) (j_wr K 225 (s 1) 0 225) (j_wr K 226 (s 1) 0 226) (j_wr K 227 (s 1) (-1) 227) (j_wr K 228 (s 1) (-1) 228) (j_wr K 229 (s 1) v 229) (j_wr K 230 (s 1) 0 230) (j_wr K 231 (s 1) 0 231) (j_wr K 232 (s 1) (K 215 2) 232) from fun j hj => (by
      by_cases e : j = s 1
      · subst e
        simp only [j_wr_same]
        exact ⟨u1, u2, u3, u4, u5, u6, u7, u8, u9, by rw [u10, b2]⟩
      · simp only [j_wr_idx _ _ _ e, hoth j _ e]
        exact hpt j (kI j hj e)))), (by (try simp (disch := decide) only [vw_wr, vw_rw]); rw [vw_jvw (by assumption)]; exact (show R_rg (s 0) (s 1 + 1) (s 2) (s 7) P' from fun j hj => (by
      by_cases e : j = s 1
      · subst e
        refine ⟨⟨s 2, Nat.le_refl _, u10⟩, Or.inl u3, fun _ => ⟨0, hn, u4⟩, Or.inl u6, fun _ => u6⟩
      · simp only [hoth j _ e]
        exact hrg j (kI j hj e)))), (by (try simp (disch := decide) only [vw_wr, vw_rw]); rw [vw_jvw (by assumption)]; exact (bx_en hbx (fun p hp => hoth p 6 (by omega)) u6 c7)), (fun k hk => (by
      obtain ⟨i, y1, y2⟩ := hor k hk
      exact ⟨i, Nat.lt_succ_of_lt y1, y2⟩)), (by (try simp (disch := decide) only [vw_wr, vw_rw]); rw [vw_jvw (by assumption)]; exact (by
      have q := sa_new (np' := s 1 + 1) (i := s 1) (x := 0) (P' := P') hsa hsb (fun p hp => hoth p 10 (by omega)) (fun p h1 h2 m hm => (by
        have e : p = s 1 := by omega
        subst e
        unfold p_pic
        rw [u10]
        by_cases z : s 2 = 0
        · rw [h15, if_pos z] at hm; exact absurd hm (Nat.not_lt_zero _)
        · rw [h15, if_neg z] at hm
          by_cases z2 : m < s 2
          · exact if_pos (nI_lt z2 (by omega))
          · have e2 : m = s 2 := by omega
            rw [if_neg (nI_nlt (by omega) (by omega)), e2]
            exact hwz (s 1) (Nat.le_refl _) hnp z)) (by omega) (by omega)
      rw [← a15] at q
      show R_sa _ _ _ _ (j_wr J 144 (s 12) (nI (s 1)) 144) (j_wr J 145 (s 12) 0 145) (j_wr J 146 (s 12) (J 143 0) 146) (j_wr J 147 (s 12) 480 147) _
      rw [j_wr_row, j_wr_row, j_wr_row, j_wr_row]
      exact q)), (by (try simp (disch := decide) only [vw_wr, vw_rw]); rw [vw_jvw (by assumption)]; exact (by
      have q := sb_new (np' := s 1 + 1) (i := s 1) (P' := P') hsb (by omega) (by omega) (fun p hp z e => (by omega)) (fun p hp e => ⟨hoth p 3 e, hoth p 11 e⟩) u3 u11
      rw [← a15] at q
      show R_sb _ _ _ _ (j_wr J 144 (s 12) (nI (s 1)) 144) (j_wr J 146 (s 12) (J 143 0) 146) (j_wr J 147 (s 12) 480 147)
      rw [j_wr_row, j_wr_row, j_wr_row]
      exact q)), (by (try simp (disch := decide) only [vw_wr, vw_rw]); rw [vw_jvw (by assumption)]; exact (by
      have q := sc_new (np' := s 1 + 1) (i := s 1) (x := 0) (P' := P') hsc (fun p hp e => kI p hp e) (fun p hp e => ⟨hoth p 3 e, hoth p 4 e, hoth p 11 e⟩) u4 u11
      show R_sc _ _ _ (j_wr J 144 (s 12) (nI (s 1)) 144) (j_wr J 145 (s 12) 0 145) (j_wr J 147 (s 12) 480 147)
      rw [j_wr_row, j_wr_row, j_wr_row]
      exact q)), (by (try simp (disch := decide) only [vw_wr, vw_rw]); rw [vw_jvw (by assumption)]; exact (by
      show s 12 + 1 + p_sum (p_phi P' (J 3)) (s 1 + 1) ≤ 2 * (s 13 + 1)
      rw [p_sum, p_sum_congr (f := p_phi P' (J 3)) (g := p_phi (vw 43 100 J) (J 3)) (fun p hp => (by unfold p_phi; rw [hoth p 3 (by omega), hoth p 4 (by omega)]))]
      have q2 : p_phi P' (J 3) (s 1) ≤ 1 := by
        unfold p_phi; rw [u3, u4, if_neg (by decide), if_neg (by decide)]
        split <;> omega
      unfold R_sn at hsn
      omega)), (fun p h1 h2 h3 => hwz p (Nat.le_of_succ_le h1) h2 h3), hth, (by (try simp (disch := decide) only [vw_wr, vw_rw, vw_jvo]); exact hla), hli, hlt, hpr, hby, htp, hrm, (by (try simp (disch := decide) only [vw_wr, vw_rw]); rw [vw_jvw (by assumption)]; exact (show R_hd (s 1 + 1) P' from fun j hj => (by
      by_cases e : j = s 1
      · subst e; rw [u1]; exact hx2
      · rw [hoth j _ e]; exact hhd j (kI j hj e)))), hlr, hs⟩
theorem l_en0 {F np : Nat} {x1 x2 : Int32} {K : j_M} (hF : 20000000 < F) (b1 : K 215 12 = nI np) (hnp : np ≤ 100) (hno : ∀ j, j < np → ¬ (K 224 j = x1 ∧ ¬ K 225 j = 2)) : f_M_enter_40 F x1 x2 0 K = f_M_enter_40b F (fun _ _ _ _ => none) x1 x2 (nI np) K := by
  unfold f_M_enter_40
  refine j_it_run (r := f_M_enter_40b F (fun _ _ _ _ => none) x1 x2 (nI np) K) (fun i => (x1, x2, nI i, K)) np (fun i hi g => ?_) (fun g => ?_) F 0 (by omega) (by omega)
  · dsimp only
    unfold f_M_enter_40b f_M_enter_84
    rw [b1, if_neg (nI_ge hi (by omega)), if_pos (j_ok_nI (show i < 100 by omega) (by decide)), if_pos (j_ok_nI (show i < 100 by omega) (by decide)), j_ix_nI (by omega)]
    simp only [j_letE, nI_1]
    by_cases z : K 224 i = x1
    · have z2 : K 225 i = 2 := Decidable.of_not_not (fun z2 => hno i hi ⟨z, z2⟩)
      rw [if_pos z, if_pos z2]
    · rw [if_neg z]
  · dsimp only
    unfold f_M_enter_40b
    rw [b1, if_pos (nI_le (Nat.le_refl _) (by omega)), if_pos (nI_le (Nat.le_refl _) (by omega))]
theorem l_en1 {F np i0 : Nat} {x1 x2 : Int32} {K : j_M} (hF : 20000000 < F) (b1 : K 215 12 = nI np) (hnp : np ≤ 100) (hi0 : i0 < np) (hno : ∀ j, j < i0 → ¬ (K 224 j = x1 ∧ ¬ K 225 j = 2)) (y1 : K 224 i0 = x1) (y2 : ¬ K 225 i0 = 2) : f_M_enter_40 F x1 x2 0 K = some (-5, j_wr K 215 24 (K 215 24 + 1)) := by
  unfold f_M_enter_40
  refine j_it_run (r := some (-5, j_wr K 215 24 (K 215 24 + 1))) (fun i => (x1, x2, nI i, K)) i0 (fun i hi g => ?_) (fun g => ?_) F 0 (by omega) (by omega)
  · dsimp only
    unfold f_M_enter_40b f_M_enter_84
    rw [b1, if_neg (nI_ge (show i < np by omega) (by omega)), if_pos (j_ok_nI (show i < 100 by omega) (by decide)), if_pos (j_ok_nI (show i < 100 by omega) (by decide)), j_ix_nI (by omega)]
    simp only [j_letE, nI_1]
    by_cases z : K 224 i = x1
    · have z2 : K 225 i = 2 := Decidable.of_not_not (fun z2 => hno i hi ⟨z, z2⟩)
      rw [if_pos z, if_pos z2]
    · rw [if_neg z]
  · dsimp only
    unfold f_M_enter_40b
    rw [b1, if_neg (nI_ge hi0 (by omega)), if_pos (j_ok_nI (show i0 < 100 by omega) (by decide)), if_pos (j_ok_nI (show i0 < 100 by omega) (by decide)), j_ix_nI (by omega), if_pos y1, if_neg y2]
    rfl
theorem op_enter (F : Nat) (hF : 20000000 < F) (x1 x2 : Int32) : OP F (f_G_enter F x1 x2) (f_M_enter F x1 x2) := by
  intro s J K hs h
  have h0 := h
  obtain ⟨hr, h1, h2⟩ := h
  have hr0 := hr
  have hns := R_ns hr
  obtain ⟨a0, b0, c0, a1, b1, c1, a2, b2, c2, a3, b3, c3, d3, a4, b4, c4, a5, b5, c5, a6, b6, c6, a7, b7, c7, a8, b8, c8, a9, b9, c9, a10, b10, c10, a11, b11, c11, a12, a15, c15, a14, b14, c14, e1, e2, e3, e4, e5, e6, r1, r2, r3, r4, r5, r6, r7, r8, r9, r10, r11, r12, r13, r14, r15, r16, r17, hwk, hso, hrn, hnu, hpt, hrg, hbx, hor, hsa, hsb, hsc, hsn, hwz, hth, hla, hli, hlt, hpr, hby, htp, hrm, hhd, hlr, hK⟩ := hr
  simp only [f_G_enter, f_M_enter, e_within, e_isTi, e_among, j_bdS, j_letE]
  refine wp2_ite Iff.rfl (fun q1 => wp2_mk rfl rfl (op_idle hs h0 rfl)) (fun q1 => ?_)
  refine wp2_ite Iff.rfl (fun q1 => wp2_mk rfl rfl (op_idle hs h0 rfl)) (fun q2 => ?_)
  obtain ⟨t, ht, rfl⟩ := nI_in2 299 rfl (by decide) (b10n q1)
  have ot : j_ok (nI t) 300 = true := j_ok_nI (by omega) (by decide)
  have hx2 : ∃ k, k ≤ 20 ∧ x2 = nI k := nI_in2 20 rfl (by decide) ⟨Int32.le_trans (by decide) (b10n q2).1, (b10n q2).2⟩
  simp only [ot, if_true, j_ix_nI (show t < 2 ^ 31 by omega)]
  refine wp2_ite (by rw [r3]) (fun _ => wp2_mk rfl rfl (op_idle hs h0 rfl)) (fun q3 => ?_)
  refine wp2_ite (by rw [a0, b0]) (fun _ => wp2_mk rfl rfl (op_idle hs h0 rfl)) (fun q4 => ?_)
  have hn : 0 < s 0 := by
    rcases Nat.eq_zero_or_pos (s 0) with z | z
    · exact absurd (by rw [a0, z]; rfl) q4
    · exact z
  have hp2 : ∀ j, j < s 1 → vw 43 100 J j 2 = K 224 j ∧ vw 43 100 J j 3 = K 225 j := fun j hj => ⟨(hpt j hj).2.1, (hpt j hj).2.2.1⟩
  obtain ⟨v5, J', e, rfl, hcase⟩ := l_shows (nI t) hF a1 c1
  rw [e, j_bdS]
  rcases hcase with ⟨rfl, i, hi, hfirst, g1, g2⟩ | ⟨rfl, hnone⟩
  · refine wp2_Ln (by decide) ?_
    rw [l_en1 hF b1 c1 hi (fun j hj => by rw [← (hp2 j (by omega)).1, ← (hp2 j (by omega)).2]; exact hfirst j hj) (by rw [← (hp2 i hi).1]; exact g1) (by rw [← (hp2 i hi).2]; exact g2)]
    refine wp2_mk rfl rfl (op_fin (s' := s) hs rfl rfl (frJ_wr (by decide) (frJ_rf _)) (frK_wr (by decide) (frK_rf _)) ⟨?_, ?_, h2⟩)
    · exact ⟨a0, b0, c0, a1, b1, c1, a2, b2, c2, a3, b3, c3, d3, a4, b4, c4, a5, b5, c5, a6, b6, c6, a7, b7, c7, a8, b8, c8, a9, b9, c9, a10, b10, c10, a11, b11, c11, a12, a15, c15, a14, b14, c14, (show J' 0 12 + 1 = K 215 24 + 1 by rw [e1]), e2, e3, e4, e5, e6, r1, r2, r3, r4, r5, r6, r7, r8, r9, r10, r11, r12, r13, r14, r15, r16, r17, (by (try simp (disch := decide) only [vw_wr, vw_rw, vw_jvo]); exact hwk), hso, hrn, (by (try simp (disch := decide) only [vw_wr, vw_rw, vw_jvo]); exact hnu), (by (try simp (disch := decide) only [vw_wr, vw_rw, vw_jvo]); exact hpt), (by (try simp (disch := decide) only [vw_wr, vw_rw, vw_jvo]); exact hrg), (by (try simp (disch := decide) only [vw_wr, vw_rw, vw_jvo]); exact hbx), hor, (by (try simp (disch := decide) only [vw_wr, vw_rw, vw_jvo]); exact hsa), (by (try simp (disch := decide) only [vw_wr, vw_rw, vw_jvo]); exact hsb), (by (try simp (disch := decide) only [vw_wr, vw_rw, vw_jvo]); exact hsc), (by (try simp (disch := decide) only [vw_wr, vw_rw, vw_jvo]); exact hsn), hwz, hth, (by (try simp (disch := decide) only [vw_wr, vw_rw, vw_jvo]); exact hla), hli, hlt, hpr, hby, htp, hrm, (by (try simp (disch := decide) only [vw_wr, vw_rw, vw_jvo]); exact hhd), hlr, hK⟩
    · rw [vw_wr (by decide)]; exact h1
  · refine wp2_Lp rfl ?_
    rw [l_en0 hF b1 c1 (fun j hj => by rw [← (hp2 j hj).1, ← (hp2 j hj).2]; exact hnone j hj)]
    unfold f_M_enter_40b
    refine wp2_Rp (by rw [b1]; exact nI_le (Nat.le_refl _) (by omega)) ?_
    by_cases hnp : s 1 < 100
    · refine wp2_Lp (by rw [a1]; exact nI_lt (b := 100) hnp (by decide)) (wp2_Rn (by rw [b1]; exact nI_ne (b := 100) (by omega) (by omega) (by decide)) ?_)
      rw [a2, e_add hnp a1, j_bdS]
      refine wp2_Lp hnp ?_
      rw [e_enS (ns := s 12) hnp (hnu (s 1) hnp) a12 (by omega), j_bdS]
      have oi : j_ok (K 215 12) 100 = true := by rw [b1]; exact j_ok_nI hnp (by decide)
      have ix : j_ix (K 215 12) = s 1 := by rw [b1, j_ix_nI (by omega)]
      simp only [j_letE, oi, ix, if_true]
      simp (disch := decide) only [j_wr_cell]
      rw [← bd_bd (f := fun v I => f_G_worth F v (s 1) 0 I)]
      have hv1 : v0 100 (p_en (vw 43 100 J') (s 1) (nI t) x2 (nI (s 2)) (nI (s 12))) := v0_up (v0_up (v0_up (v0_up (v0_up (v0_up (v0_up (v0_up (v0_up (v0_up (v0_up (v0_vw _ _ _) hnp) hnp) hnp) hnp) hnp) hnp) hnp) hnp) hnp) hnp) hnp
      have hoth : ∀ p f, p ≠ s 1 → p_en (vw 43 100 J') (s 1) (nI t) x2 (nI (s 2)) (nI (s 12)) p f = vw 43 100 J' p f := fun p f e => by
        simp only [p_en, p_bg, vup_ne _ _ _ _ e]
      have u10 : p_en (vw 43 100 J') (s 1) (nI t) x2 (nI (s 2)) (nI (s 12)) (s 1) 10 = nI (s 2) := vup_at (vup (vup (vw 43 100 J') (s 1) 2 (nI t)) (s 1) 1 x2) (s 1) 10 (nI (s 2))
      have u1 : p_en (vw 43 100 J') (s 1) (nI t) x2 (nI (s 2)) (nI (s 12)) (s 1) 1 = x2 := vup_at (vup (vw 43 100 J') (s 1) 2 (nI t)) (s 1) 1 x2
      have u3 : p_en (vw 43 100 J') (s 1) (nI t) x2 (nI (s 2)) (nI (s 12)) (s 1) 3 = 0 := vup_at (p_bg (vw 43 100 J') (s 1) (nI t) x2 (nI (s 2))) (s 1) 3 0
      have hrw : RW F (p_up (p_up (p_up s 1 (s 1 + 1)) 12 (s 12 + 1)) 13 (s 13 + 1)) (jvw (j_nt J' (s 1) (s 12)) 43 100 (p_en (vw 43 100 J') (s 1) (nI t) x2 (nI (s 2)) (nI (s 12)))) (k_nt K (s 1) (nI t) x2) (s 1) := by
        refine ⟨rfl, (show K 215 12 + 1 = nI (s 1 + 1) by rw [b1, nI_1]), hnp, a2, b2, c2, a3, b3, a9, b9, c9, b4, c4, hrn, hpr, r10, r11, r12, fun j hj => ?_, Nat.lt_succ_self (s 1), ?_, s 2, Nat.le_refl _, ?_⟩
        · rw [vw_jvw hv1]
          show _ = j_wr K 223 (s 1) x2 223 j ∧ _ = j_wr K 225 (s 1) 0 225 j
          by_cases e : j = s 1
          · subst e; rw [j_wr_same, j_wr_same]; exact ⟨u1, u3⟩
          · rw [j_wr_idx _ _ _ e, j_wr_idx _ _ _ e, hoth j 1 e, hoth j 3 e]
            have hj2 : j < s 1 := by
              have : j < s 1 + 1 := hj
              omega
            exact ⟨(hpt j hj2).1, (hpt j hj2).2.2.1⟩
        · rw [vw_jvw hv1, u10]
          show _ = j_wr K 232 (s 1) (K 215 2) 232 (s 1)
          rw [j_wr_same, b2]
        · rw [vw_jvw hv1, u10]
      obtain ⟨v, J2, w, K2, q5, q6, rfl, ⟨g1, g2, rfl⟩, ⟨g3, g4, rfl⟩⟩ := pr_tonW hF hrw 0 0
      refine wp2_bd (wp2_mk q5 ((congrArg (fun y => f_M_tonight F 0 y 0 (k_nt K (s 1) (nI t) x2)) b1).trans q6) ?_)
      have i1 : j_wr (j_rw (j_rw (jvw (j_nt J' (s 1) (s 12)) 43 100 (p_en (vw 43 100 J') (s 1) (nI t) x2 (nI (s 2)) (nI (s 12)))) 209 g1) 208 g2) (43 + s 1) 7 v = j_rw (j_rw (jvw (j_nt J' (s 1) (s 12)) 43 100 (vup (p_en (vw 43 100 J') (s 1) (nI t) x2 (nI (s 2)) (nI (s 12))) (s 1) 7 v)) 209 g1) 208 g2 := by
        rw [wr_ne (by omega), wr_ne (by omega), jvw_wr2 hnp]
      have i2 : (j_rw (j_rw (jvw (j_nt J' (s 1) (s 12)) 43 100 (vup (p_en (vw 43 100 J') (s 1) (nI t) x2 (nI (s 2)) (nI (s 12))) (s 1) 7 v)) 209 g1) 208 g2) (43 + s 1) 7 = v := by
        rw [rw_ne (by omega), rw_ne (by omega), jvw_in hnp, vup_at]
      have i3 : (j_rw (j_rw (jvw (j_nt J' (s 1) (s 12)) 43 100 (vup (p_en (vw 43 100 J') (s 1) (nI t) x2 (nI (s 2)) (nI (s 12))) (s 1) 7 v)) 209 g1) 208 g2) 0 14 = J' 0 14 := rfl
      have i4 : j_wr (j_rw (j_rw (jvw (j_nt J' (s 1) (s 12)) 43 100 (vup (p_en (vw 43 100 J') (s 1) (nI t) x2 (nI (s 2)) (nI (s 12))) (s 1) 7 v)) 209 g1) 208 g2) 0 14 (J' 0 14 + v) = j_rw (j_rw (jvw (j_wr (j_nt J' (s 1) (s 12)) 0 14 (J' 0 14 + v)) 43 100 (vup (p_en (vw 43 100 J') (s 1) (nI t) x2 (nI (s 2)) (nI (s 12))) (s 1) 7 v)) 209 g1) 208 g2 := by
        rw [wr_ne (by decide), wr_ne (by decide), jvw_wr3 (by decide)]
      have k1 : j_wr (j_rw (j_rw (k_nt K (s 1) (nI t) x2) 253 g3) 254 g4) 229 (s 1) v = j_rw (j_rw (j_wr (k_nt K (s 1) (nI t) x2) 229 (s 1) v) 253 g3) 254 g4 := by
        rw [wr_ne (by decide), wr_ne (by decide)]
      have k2 : (j_rw (j_rw (j_wr (k_nt K (s 1) (nI t) x2) 229 (s 1) v) 253 g3) 254 g4) 229 (s 1) = v := by
        rw [rw_ne (by decide), rw_ne (by decide), j_wr_same]
      have k3 : (j_rw (j_rw (j_wr (k_nt K (s 1) (nI t) x2) 229 (s 1) v) 253 g3) 254 g4) 215 26 = K 215 26 := rfl
      have k3' : (j_rw (j_rw (k_nt K (s 1) (nI t) x2) 253 g3) 254 g4) 215 26 = K 215 26 := rfl
      have k4 : j_wr (j_rw (j_rw (j_wr (k_nt K (s 1) (nI t) x2) 229 (s 1) v) 253 g3) 254 g4) 215 26 (K 215 26 + v) = j_rw (j_rw (j_wr (j_wr (k_nt K (s 1) (nI t) x2) 229 (s 1) v) 215 26 (K 215 26 + v)) 253 g3) 254 g4 := by
        rw [wr_ne (by decide), wr_ne (by decide)]
      simp only [i1, i2, i3, i4, k1, k2, k3, k3', k4]
      obtain ⟨m1, m2, m3, m4, -⟩ := RR_scr (rr_enter (x1 := nI t) (x2 := x2) hr0 hnp hn h2 hs hx2 v) ⟨⟨g1, g2, rfl⟩, ⟨g3, g4, rfl⟩⟩
      refine wp2_mk rfl rfl ⟨?_, frJ_tr ?_ m3, frK_tr ?_ m4, _, rfl, m1, ?_, h2⟩
      · rw [rw_ne (by omega), rw_ne (by omega), jvw_in hnp, b1]
        exact hnu (s 1) hnp
      · exact frJ_vw (by decide) (frJ_wr (by decide) (frJ_wr (by decide) (frJ_wr (by decide) (frJ_wr (by decide) (frJ_wr (by decide) (frJ_wr (by decide) (frJ_wr (by decide) (frJ_rf _))))))))
      · exact frK_wr (by decide) (frK_wr (by decide) (frK_wr (by decide) (frK_wr (by decide) (frK_wr (by decide) (frK_wr (by decide) (frK_wr (by decide) (frK_wr (by decide) (frK_wr (by decide) (frK_wr (by decide) (frK_wr (by decide) (frK_wr (by decide) (frK_rf _))))))))))))
      · rw [m2, vw_jvw (v0_up hv1 hnp)]
        intro j hj z
        by_cases ej : j = s 1
        · subst ej
          exact absurd (u3.symm.trans z) (by decide)
        · have hj2 : j < s 1 := by
            have : j < s 1 + 1 := hj
            omega
          rw [vup_ne _ _ _ _ ej, hoth j _ ej] at z
          rw [vup_ne _ _ _ _ ej, hoth j _ ej]
          exact h1 j hj2 z
    · have e100 : s 1 = 100 := by omega
      exact wp2_Ln (by rw [a1, e100]; decide) (wp2_Rp (by rw [b1, e100]; rfl) (wp2_mk rfl rfl (op_idle hs h0 rfl)))
