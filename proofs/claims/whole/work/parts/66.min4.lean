/-! minutes: the crush; the call -/
theorem l_headsN {F np : Nat} {J : j_M} (x : Int32) (hF : 20000000 < F) (a1 : J 41 0 = nI np) (hnp : np ≤ 100) (hhd : R_hd np (vw 43 100 J)) : ∃ m, m ≤ 2000 ∧ f_Gu_headsAt F x J = some (nI m, J) := by
  refine ⟨p_sum (fun i => if vw 43 100 J i 3 = 0 ∧ vw 43 100 J i 4 = x then j_ix (vw 43 100 J i 1) else 0) np, ?_, ?_⟩
  · have q := p_sum_le (f := fun i => if vw 43 100 J i 3 = 0 ∧ vw 43 100 J i 4 = x then j_ix (vw 43 100 J i 1) else 0) (B := 20) (n := np) (fun p hp => by
      obtain ⟨k, hk, ek⟩ := hhd p hp
      rw [ek, j_ix_nI (by omega)]
      split <;> omega)
    omega
  · unfold f_Gu_headsAt f_Gu_headsAt_4
    refine j_it_run (r := some (nI (p_sum (fun i => if vw 43 100 J i 3 = 0 ∧ vw 43 100 J i 4 = x then j_ix (vw 43 100 J i 1) else 0) np), J)) (fun i => (x, nI (p_sum (fun i => if vw 43 100 J i 3 = 0 ∧ vw 43 100 J i 4 = x then j_ix (vw 43 100 J i 1) else 0) i), nI i, J)) np (fun i hi again => ?_) (fun again => ?_) F 0 (by omega) (by omega)
    · dsimp only
      unfold f_Gu_headsAt_4b f_Gu_headsAt_49
      obtain ⟨k, hk, ek⟩ := hhd i hi
      simp only [a1, if_neg (nI_ge hi (show np < 2 ^ 31 by omega)), j_ok_nI (show i < 100 by omega) (show 100 < 2 ^ 31 by decide), if_true, j_letE, nI_1, j_ix_nI (show i < 2 ^ 31 by omega), vw_at (show i < 100 by omega)]
      rw [p_sum]
      by_cases c1 : vw 43 100 J i 3 = 0
      · rw [if_pos c1]
        by_cases c2 : vw 43 100 J i 4 = x
        · rw [if_pos c2, if_pos ⟨c1, c2⟩, ek, j_ix_nI (by omega), nI_add]
        · rw [if_neg c2, if_neg (fun z => c2 z.2)]; rfl
      · rw [if_neg c1, if_neg (fun z => c1 z.1)]; rfl
    · dsimp only
      unfold f_Gu_headsAt_4b
      rw [a1, if_pos (nI_le (Nat.le_refl _) (by omega))]
theorem cr_max {m r : Nat} (hm : m ≤ 2000) (hr : r ≤ 999) : (if 0 < nI m - nI r then nI m - nI r else 0) = nI (m - r) := by
  by_cases c : r < m
  · rw [pk_sub (by omega), if_pos (show (0 : Int32) < nI _ from nI_lt (a := 0) (by omega) (by omega))]
  · rw [show m - r = 0 by omega]
    by_cases c2 : m = r
    · subst c2; rw [pk_sub (Nat.le_refl _), Nat.sub_self]; rfl
    · have := pk_sneg (a := m) (b := r) (by omega) (by omega)
      rw [if_neg (fun z => absurd (Int32.lt_trans z this) (by decide))]; rfl
theorem pr_crush {F : Nat} {s : Nat → Nat} {J K : j_M} {kb26 : Int32 → Int32 → j_M → Option (Int32 × j_M)} {x1 x2 : Int32} (hF : 20000000 < F) (hr : RR F s J K) : ∃ v, f_G_overcrowding F J = some (v, J) ∧ f_M_minutes_220 F kb26 x1 x2 0 K = j_bd (f_M_keep F (j_wr K 215 25 (K 215 25 + v))) (fun _ I4 => kb26 x1 (x2 + 1) I4) := by
  have a0 := RR_a0 hr
  have b0 := RR_b0 hr
  have c0 := RR_c0 hr
  have a1 := RR_a1 hr
  have b1 := RR_b1 hr
  have c1 := RR_c1 hr
  have hrm := RR_hrm hr
  have r1 := RR_r1 hr
  have hch : ∀ q : Nat, ∃ m, m ≤ 2000 ∧ f_Gu_headsAt F (nI q) J = some (nI m, J) := fun q => l_headsN (nI q) hF a1 c1 (RR_hhd hr)
  obtain ⟨m, hm⟩ := Classical.axiomOfChoice hch
  have hK : ∀ v q, f_M_headsAt F (nI q) (j_wr K 215 25 v) = some (nI (m q), j_wr K 215 25 v) := fun v q => by
    obtain ⟨v1, J', w1, K', e1, e2, rfl, rfl, rfl⟩ := l_headsAt (J := J) (K := j_wr K 215 25 v) (nI q) hF a1 b1 c1 (fun i hi => ⟨(RR_hpt hr i hi).1, (RR_hpt hr i hi).2.2.1, (RR_hpt hr i hi).2.2.2.1⟩)
    rw [(hm q).2] at e1
    have : nI (m q) = v1 := congrArg Prod.fst (Option.some.inj e1)
    rw [this]; exact e2
  have hro : ∀ q, ∃ k, k ≤ 999 ∧ (q < s 0 → J 2 q = nI k) := fun q => by
    by_cases c : q < s 0
    · obtain ⟨k, k1, k2⟩ := hrm q c; exact ⟨k, k1, fun _ => k2⟩
    · exact ⟨0, by omega, fun z => absurd z c⟩
  obtain ⟨ro, hro⟩ := Classical.axiomOfChoice hro
  refine ⟨bx_sum (fun q => nI (m q - ro q)) (s 0), ?_, ?_⟩
  · unfold f_G_overcrowding f_G_overcrowding_4
    refine j_it_run (r := some (bx_sum (fun q => nI (m q - ro q)) (s 0), J)) (fun i => (bx_sum (fun q => nI (m q - ro q)) i, nI i, J)) (s 0) (fun i hi again => ?_) (fun again => ?_) F 0 (by omega) (by omega)
    · dsimp only
      unfold f_G_overcrowding_4b
      rw [a0, if_neg (nI_ge hi (by omega)), (hm i).2, j_bdS, if_pos (j_ok_nI (show i < 16 by omega) (by decide)), j_ix_nI (by omega), (hro i).2 hi, cr_max (hm i).1 (hro i).1]
      simp only [j_letE, nI_1]
      rfl
    · dsimp only
      unfold f_G_overcrowding_4b
      rw [a0, if_pos (nI_le (Nat.le_refl _) (by omega))]
  · unfold f_M_minutes_220
    have h0 : (x1, x2, (0 : Int32), K) = (x1, x2, nI 0, j_wr K 215 25 (K 215 25 + bx_sum (fun q => nI (m q - ro q)) 0)) := by
      rw [show bx_sum (fun q => nI (m q - ro q)) 0 = 0 from rfl, Int32.add_zero, wr_self]; rfl
    rw [h0]
    refine j_it_run (r := j_bd (f_M_keep F (j_wr K 215 25 (K 215 25 + bx_sum (fun q => nI (m q - ro q)) (s 0)))) (fun _ I4 => kb26 x1 (x2 + 1) I4)) (fun i => (x1, x2, nI i, j_wr K 215 25 (K 215 25 + bx_sum (fun q => nI (m q - ro q)) i))) (s 0) (fun i hi again => ?_) (fun again => ?_) F 0 (by omega) (by omega)
    · dsimp only
      unfold f_M_minutes_220b f_M_minutes_263
      generalize hS : bx_sum (fun q => nI (m q - ro q)) i = S
      have e1 : (j_wr K 215 25 (K 215 25 + S)) 215 3 = nI (s 0) := b0
      have e2 : (j_wr K 215 25 (K 215 25 + S)) 216 = K 216 := rfl
      have e3 : (j_wr K 215 25 (K 215 25 + S)) 215 25 = K 215 25 + S := rfl
      have e4 : bx_sum (fun q => nI (m q - ro q)) (i + 1) = S + nI (m i - ro i) := by rw [← hS]; rfl
      simp only [e1, if_neg (nI_ge hi (show s 0 < 2 ^ 31 by omega)), hK, j_bdS, e2, e3, j_letE, wr_ww, j_ok_nI (show i < 16 by omega) (show 16 < 2 ^ 31 by decide), if_true, j_ix_nI (show i < 2 ^ 31 by omega), nI_1]
      rw [e4, ← r1, (hro i).2 hi]
      have u1 := (hm i).1
      have u2 := (hro i).1
      by_cases c : m i ≤ ro i
      · rw [if_pos (nI_le c (by omega)), show m i - ro i = 0 by omega, show nI 0 = 0 from rfl, Int32.add_zero, Int32.add_zero]
      · rw [if_neg (nI_ge (by omega) (by omega)), pk_sub (by omega), Int32.add_assoc]
    · dsimp only
      unfold f_M_minutes_220b
      have e1 : ∀ v, (j_wr K 215 25 v) 215 3 = nI (s 0) := fun _ => b0
      rw [e1, if_pos (nI_le (Nat.le_refl _) (by omega))]
      simp only [j_letE]
theorem pr_tail {F : Nat} {s : Nat → Nat} {J K : j_M} {k1 k2 : Int32 → Int32 → j_M → Option (Int32 × j_M)} {x1 x2 : Int32} {Q : Int32 → j_M → Int32 → j_M → Prop} (hF : 20000000 < F) (hr : RR F s J K) (hdu : R_du (s 1) (s 2) (vw 43 100 J)) (h15 : s 15 = s 2) (h2 : s 2 ≠ 0)
    (nx : ∀ s' J' K', s' 13 = s 13 → s' 2 = s 2 → R1 F s' J' K' → frJ J J' → frK K K' → j_wp2 (k1 x1 (x2 + 1) J') (k2 x1 (x2 + 1) K') Q) : j_wp2 (f_G_minutes_90 F k1 x1 x2 J) (f_M_minutes_214 F k2 x1 x2 K) Q := by
  unfold f_G_minutes_90 f_M_minutes_214
  refine wp2_bd (wp2_mono (pr_serve hF hr) ?_)
  rintro v1 J1 w1 K1 ⟨s', hss, hr', hv, f1, f2⟩
  obtain ⟨v, e1, e2⟩ := pr_crush (kb26 := k2) (x1 := x1) (x2 := x2) hF hr'
  rw [e1, e2, j_bdS]
  have hr3 : RR F s' (j_wr J1 0 13 (J1 0 13 + v)) (j_wr K1 215 25 (K1 215 25 + v)) := by
    have hr4 := hr'
    obtain ⟨a0, b0, c0, a1, b1, c1, a2, b2, c2, a3, b3, c3, d3, a4, b4, c4, a5, b5, c5, a6, b6, c6, a7, b7, c7, a8, b8, c8, a9, b9, c9, a10, b10, c10, a11, b11, c11, a12, a15, c15, a14, b14, c14, e1, e2, e3, e4, e5, e6, r1, r2, r3, r4, r5, r6, r7, r8, r9, r10, r11, r12, r13, r14, r15, r16, r17, hwk, hso, hrn, hnu, hpt, hrg, hbx, hor, hsa, hsb, hsc, hsn, hwz, hth, hla, hli, hlt, hpr, hby, htp, hrm, hhd, hlr, hK⟩ := hr4
    exact ⟨a0, b0, c0, a1, b1, c1, a2, b2, c2, a3, b3, c3, d3, a4, b4, c4, a5, b5, c5, a6, b6, c6, a7, b7, c7, a8, b8, c8, a9, b9, c9, a10, b10, c10, a11, b11, c11, a12, a15, c15, a14, b14, c14, e1, (show J1 0 13 + v = K1 215 25 + v by rw [e2]), e3, e4, e5, e6, r1, r2, r3, r4, r5, r6, r7, r8, r9, r10, r11, r12, r13, r14, r15, r16, r17, (by (try simp (disch := decide) only [vw_wr, vw_rw, vw_jvo]); exact hwk), hso, hrn, (by (try simp (disch := decide) only [vw_wr, vw_rw, vw_jvo]); exact hnu), (by (try simp (disch := decide) only [vw_wr, vw_rw, vw_jvo]); exact hpt), (by (try simp (disch := decide) only [vw_wr, vw_rw, vw_jvo]); exact hrg), (by (try simp (disch := decide) only [vw_wr, vw_rw, vw_jvo]); exact hbx), hor, (by (try simp (disch := decide) only [vw_wr, vw_rw, vw_jvo]); exact hsa), (by (try simp (disch := decide) only [vw_wr, vw_rw, vw_jvo]); exact hsb), (by (try simp (disch := decide) only [vw_wr, vw_rw, vw_jvo]); exact hsc), (by (try simp (disch := decide) only [vw_wr, vw_rw, vw_jvo]); exact hsn), hwz, hth, (by (try simp (disch := decide) only [vw_wr, vw_rw, vw_jvo]); exact hla), hli, hlt, hpr, hby, htp, hrm, (by (try simp (disch := decide) only [vw_wr, vw_rw, vw_jvo]); exact hhd), hlr, hK⟩
  have s1 : s' 1 = s 1 := hss 1 (by decide)
  have s2 : s' 2 = s 2 := hss 2 (by decide)
  have s15 : s' 15 = s 15 := hss 15 (by decide)
  obtain ⟨t1, t2⟩ := rr_tock hF hr3 (by rw [s15, s2, h15])
  have a2 : (j_wr J1 0 13 (J1 0 13 + v)) 0 11 = nI (s' 2) := RR_a2 hr3
  rw [t1, j_bdS]
  simp only [j_letE, a2, nI_1]
  refine nx _ _ _ ?_ ?_ ⟨t2, ?_, ?_⟩ ?_ ?_
  · exact hss 13 (by decide)
  · exact s2
  · show R_du (s' 1) (s' 2) (vw 43 100 (j_wr (j_wr J1 0 13 (J1 0 13 + v)) 143 0 (nI (s' 2 + 1))))
    simp (disch := decide) only [vw_wr]
    rw [s1, s2]
    intro j hj z
    rw [(hv j).1] at z
    rw [(hv j).2]
    exact hdu j hj z
  · show s' 2 + 1 = if s' 2 = 0 then 0 else s' 2 + 1
    rw [if_neg (by omega)]
  · exact frJ_wr (by decide) (frJ_wr (by decide) f1)
  · exact frK_rw (by decide) (frK_wr (by decide) f2)
theorem op_minutes (F : Nat) (hF : 20000000 < F) (x1 : Int32) : OP F (f_G_minutes F x1) (f_M_minutes F x1) := by
  intro s J K hs h
  have a2 := RR_a2 h.1
  have b2 := RR_b2 h.1
  have c2 := RR_c2 h.1
  simp only [f_G_minutes, f_M_minutes, e_within, e_among, j_bdS, a2, b2]
  refine wp2_ite Iff.rfl (fun q1 => wp2_mk rfl rfl (op_idle hs h rfl)) (fun q1 => ?_)
  have q1' := b10n q1
  obtain ⟨n, hn, rfl⟩ := nI_in2 60 rfl (by decide) ⟨Int32.le_trans (by decide) q1'.1, q1'.2⟩
  rw [nI_add]
  by_cases hc : ¬ s 2 + n < 480
  · exact wp2_Ln (nI_nlt (b := 480) (by omega) (by omega)) (wp2_Rn (nI_ge (a := 479) (by omega) (by omega)) (wp2_mk rfl rfl (op_idle hs h rfl)))
  refine wp2_Lp (nI_lt (b := 480) (by omega) (by decide)) (wp2_Rp (nI_le (b := 479) (by omega) (by decide)) ?_)
  unfold f_G_minutes_26 f_M_minutes_26
  refine j_it2 (Inv := fun k q r => ∃ i s' J' K', i + k = n ∧ q = (nI n, nI i, J') ∧ r = (nI n, nI i, K') ∧ R1 F s' J' K' ∧ s' 13 = s 13 ∧ s' 2 = s 2 + i ∧ frJ J J' ∧ frK K K') ?_ F n _ _ (by omega) ⟨0, s, J, K, by omega, rfl, rfl, h, rfl, rfl, frJ_rf _, frK_rf _⟩
  intro k q r g1 g2 hq hag
  obtain ⟨i, s', J', K', hi, rfl, rfl, h', h13, hs2, f1, f2⟩ := hq
  dsimp only
  unfold f_G_minutes_26b f_M_minutes_26b
  have a2 := RR_a2 h'.1
  have b2 := RR_b2 h'.1
  have c2 := RR_c2 h'.1
  by_cases e : i = n
  · have c : nI n ≤ nI i := nI_le (by omega) (by omega)
    exact wp2_Lp c (wp2_Rp c (wp2_mk rfl rfl (op_fin hs h13 (a2.trans b2.symm) f1 f2 h')))
  have c : ¬ nI n ≤ nI i := nI_ge (by omega) (by omega)
  refine wp2_Ln c (wp2_Rn c ?_)
  obtain ⟨K1, t1, t2, t3⟩ := rr_tick (kb := fun x1 x2 I => g2 (x1, x2, I)) (x1 := nI n) (x2 := nI i) hF h' (by omega)
  rw [t1, a2, e_rains c2, j_bdS]
  have u2 : (j_wr J' 0 11 (nI (s' 2 + 1))) 0 11 = nI (s' 2 + 1) := rfl
  simp only [a2, nI_1, j_letE, u2]
  have fJ1 : frJ J (j_wr (j_wr J' 0 11 (nI (s' 2 + 1))) 143 0 (nI (s' 2 + 1))) := frJ_wr (by decide) (frJ_wr (by decide) f1)
  have tail : ∀ s3 J3 K3, s3 13 = s 13 → s3 2 = s' 2 + 1 → s3 15 = s' 2 + 1 → RR F s3 J3 K3 → R_du (s3 1) (s3 2) (vw 43 100 J3) → frJ J J3 → frK K K3 → j_wp2 (f_G_minutes_90 F (fun x1 x2 I => g1 (x1, x2, I)) (nI n) (nI i) J3) (f_M_minutes_214 F (fun x1 x2 I => g2 (x1, x2, I)) (nI n) (nI i) K3) (OPQ F s J K) := by
    intro s3 J3 K3 y1 y2 y3 y4 y5 y6 y7
    refine pr_tail hF y4 y5 (by omega) (by omega) (fun s4 J4 K4 z1 z2 z3 z4 z5 => ?_)
    rw [nI_1]
    exact hag _ _ (k - 1) (by omega) ⟨i + 1, s4, J4, K4, by omega, rfl, rfl, z3, by omega, by omega, frJ_tr y6 z4, frK_tr y7 z5⟩
  refine pr_seat hF t2 (fun j hj z => ?_) (fun s2 J2 K2 y1 y2 y3 y4 y5 y6 => ?_)
  · simp (disch := decide) only [vw_wr] at z ⊢
    obtain ⟨d, w1, w2, w3⟩ := h'.2.1 j hj z
    exact ⟨d, w1, w2, w3⟩
  · have e39 : J2 39 = J' 39 := by rw [y4 39 (by decide)]; rfl
    have q1 : s2 1 = s' 1 := y1 1 (by decide)
    have q2 : s2 2 = s' 2 + 1 := y1 2 (by decide)
    have q13 : s2 13 = s' 13 := y1 13 (by decide)
    have q15 : s2 15 = s' 2 + 1 := y1 15 (by decide)
    have fJ2 := frJ_tr fJ1 y5
    have fK2 := frK_tr (frK_tr f2 t3) y6
    have hb2 : K2 215 2 = nI (s' 2 + 1) := by rw [RR_b2 y2, q2]
    have ha2 : J2 0 11 = nI (s' 2 + 1) := by rw [RR_a2 y2, q2]
    have hdu2 : R_du (s2 1) (s2 2) (vw 43 100 J2) := by rw [q1, q2]; exact y3
    have direct := tail s2 J2 K2 (q13.trans h13) q2 q15 y2 hdu2 fJ2 fK2
    show j_wp2 _ (j_bd (f_M_rainsIn F (K2 215 2) K2) _) _
    rw [hb2, e_rainsIn (wet := J2 39) (r := s2 4) hF (by omega) (RR_hrn y2) (RR_c4 y2) (RR_b4 y2), j_bdS, hb2, nI_pred, e_rainsIn (wet := J2 39) (r := s2 4) hF (by omega) (RR_hrn y2) (RR_c4 y2) (RR_b4 y2), j_bdS, ha2, e_rains (by omega), j_bdS, e39]
    have seek : j_wp2 (j_bd (f_G_seekShelter F J2) (fun _ I17 => f_G_minutes_90 F (fun x1 x2 I => g1 (x1, x2, I)) (nI n) (nI i) I17)) (f_M_minutes_163 F (fun x1 x2 I => g2 (x1, x2, I)) (nI n) (nI i) 0 K2) (OPQ F s J K) := by
      refine pr_seek hF y2 hdu2 (fun s5 J5 K5 z1 z2 z3 z4 z5 => ?_)
      refine tail s5 J5 K5 ?_ ?_ ?_ z2 ?_ (frJ_tr fJ2 z4) (frK_tr fK2 z5)
      · rw [z1 13 (by decide)]; exact q13.trans h13
      · rw [z1 2 (by decide)]; exact q2
      · rw [z1 15 (by decide)]; exact q15
      · rw [z1 1 (by decide), z1 2 (by decide)]; exact z3
    by_cases w0 : J' 39 (s' 2) = 0
    · by_cases w1 : J' 39 (s' 2 + 1) = 0
      · rw [if_pos w0, if_pos w1]
        exact wp2_Lp rfl (wp2_Lp rfl (wp2_Rp w1 direct))
      · rw [if_pos w0, if_neg w1]
        exact wp2_Lp rfl (wp2_Ln (by decide) (wp2_Rn w1 (wp2_Rp w0 seek)))
    · rw [if_neg w0]
      refine wp2_Ln (by decide) ?_
      by_cases w1 : J' 39 (s' 2 + 1) = 0
      · exact wp2_Rp w1 direct
      · exact wp2_Rn w1 (wp2_Rn w0 direct)
