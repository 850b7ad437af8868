/-! going out; what a price gives; entering -/
theorem bd_bd {α β γ : Type} {o : Option (α × j_M)} {f : α → j_M → Option (β × j_M)} {g : β → j_M → Option γ} : j_bd (j_bd o f) g = j_bd o (fun v I => j_bd (f v I) g) := by
  rcases o with _ | ⟨v, I⟩ <;> rfl
theorem pr_tonW {F : Nat} {s : Nat → Nat} {J K : j_M} {i : Nat} (hF : 20000000 < F) (hr : RW F s J K i) (kd x : Int32) : j_wp2 (j_bd (f_Pr_latest F kd (J 0 10) (J 0 10) J) (fun v I => f_G_worth F v i x I)) (f_M_tonight F kd (nI i) x K) (fun v J' w K' => v = w ∧ p_scr J K J' K') := by
  have hr0 := hr
  obtain ⟨a1, b1, c1, a2, b2, c2, a3, b3, a9, b9, c9, b4, c4, hrn, hpr, r10, r11, r12, hp, hi, p10, cm, hcm, ecm⟩ := hr
  unfold f_M_tonight
  rw [a3, b3]
  refine wp2_bd (wp2_mono (l_latest kd (nI (s 3)) (nI (s 3)) hF a9 b9 c9 r10 r11 r12) ?_)
  rintro v J' w K' ⟨hl, e1, e2⟩
  rw [e1, e2]
  exact w_worthW hF hr0 x v w hl
theorem pr_ton {F : Nat} {s : Nat → Nat} {J K : j_M} {i : Nat} (hF : 20000000 < F) (hr : RR F s J K) (hi : i < s 1) (kd x : Int32) : j_wp2 (j_bd (f_Pr_latest F kd (J 0 10) (J 0 10) J) (fun v I => f_G_worth F v i x I)) (f_M_tonight F kd (nI i) x K) (fun v J' w K' => v = w ∧ p_scr J K J' K') := pr_tonW hF (RW_of hr hi) kd x
theorem RR_scr {F : Nat} {s : Nat → Nat} {J K J' K' : j_M} (hr : RR F s J K) (h : p_scr J K J' K') : RR F s J' K' ∧ vw 43 100 J' = vw 43 100 J ∧ frJ J J' ∧ frK K K' ∧ ∀ c, c < 208 → J' c = J c := by
  obtain ⟨⟨g1, g2, rfl⟩, ⟨g3, g4, rfl⟩⟩ := h
  obtain ⟨a0, b0, c0, a1, b1, c1, a2, b2, c2, a3, b3, c3, d3, a4, b4, c4, a5, b5, c5, a6, b6, c6, a7, b7, c7, a8, b8, c8, a9, b9, c9, a10, b10, c10, a11, b11, c11, a12, a15, c15, a14, b14, c14, e1, e2, e3, e4, e5, e6, r1, r2, r3, r4, r5, r6, r7, r8, r9, r10, r11, r12, r13, r14, r15, r16, r17, hwk, hso, hrn, hnu, hpt, hrg, hbx, hor, hsa, hsb, hsc, hsn, hwz, hth, hla, hli, hlt, hpr, hby, htp, hrm, hhd, hlr, hK⟩ := hr
  refine ⟨?_, by simp (disch := decide) only [vw_rw], frJ_rw (by decide) (frJ_rw (by decide) (frJ_rf _)), frK_rw (by decide) (frK_rw (by decide) (frK_rf _)), fun c hc => ?_⟩
  · exact ⟨a0, b0, c0, a1, b1, c1, a2, b2, c2, a3, b3, c3, d3, a4, b4, c4, a5, b5, c5, a6, b6, c6, a7, b7, c7, a8, b8, c8, a9, b9, c9, a10, b10, c10, a11, b11, c11, a12, a15, c15, a14, b14, c14, e1, e2, e3, e4, e5, e6, r1, r2, r3, r4, r5, r6, r7, r8, r9, r10, r11, r12, r13, r14, r15, r16, r17, (by (try simp (disch := decide) only [vw_wr, vw_rw, vw_jvo]); exact hwk), hso, hrn, (by (try simp (disch := decide) only [vw_wr, vw_rw, vw_jvo]); exact hnu), (by (try simp (disch := decide) only [vw_wr, vw_rw, vw_jvo]); exact hpt), (by (try simp (disch := decide) only [vw_wr, vw_rw, vw_jvo]); exact hrg), (by (try simp (disch := decide) only [vw_wr, vw_rw, vw_jvo]); exact hbx), hor, (by (try simp (disch := decide) only [vw_wr, vw_rw, vw_jvo]); exact hsa), (by (try simp (disch := decide) only [vw_wr, vw_rw, vw_jvo]); exact hsb), (by (try simp (disch := decide) only [vw_wr, vw_rw, vw_jvo]); exact hsc), (by (try simp (disch := decide) only [vw_wr, vw_rw, vw_jvo]); exact hsn), hwz, hth, (by (try simp (disch := decide) only [vw_wr, vw_rw, vw_jvo]); exact hla), hli, hlt, hpr, hby, htp, hrm, (by (try simp (disch := decide) only [vw_wr, vw_rw, vw_jvo]); exact hhd), hlr, hK⟩
  · rw [rw_ne (show c ≠ 208 by omega), rw_ne (show c ≠ 209 by omega)]
theorem op_gives (F : Nat) (hF : 20000000 < F) (x1 x2 x3 : Int32) : OP F (f_G_gives F x1 x2 x3) (f_M_gives F x1 x2 x3) := by
  intro s J K hs h
  have h0 := h
  obtain ⟨hr, h1, h2⟩ := h
  have hr0 := hr
  obtain ⟨a0, b0, c0, a1, b1, c1, a2, b2, c2, a3, b3, c3, d3, a4, b4, c4, a5, b5, c5, a6, b6, c6, a7, b7, c7, a8, b8, c8, a9, b9, c9, a10, b10, c10, a11, b11, c11, a12, a15, c15, a14, b14, c14, e1, e2, e3, e4, e5, e6, r1, r2, r3, r4, r5, r6, r7, r8, r9, r10, r11, r12, r13, r14, r15, r16, r17, hwk, hso, hrn, hnu, hpt, hrg, hbx, hor, hsa, hsb, hsc, hsn, hwz, hth, hla, hli, hlt, hpr, hby, htp, hrm, hhd, hlr, hK⟩ := hr
  simp only [f_G_gives, f_M_gives, e_Pr_has, e_Gu_has, e_within, e_among, e_isPa F x2 K b1 (by omega), j_bdS, j_letE, a1, a9, b9, nI_pm (n := s 9) (by omega)]
  refine wp2_ite Iff.rfl (fun q1 => wp2_mk rfl rfl (op_idle hs h0 rfl)) (fun q1 => ?_)
  refine wp2_ite Iff.rfl (fun q1 => wp2_mk rfl rfl (op_idle hs h0 rfl)) (fun q2 => ?_)
  refine wp2_ite Iff.rfl (fun q1 => wp2_mk rfl rfl (op_idle hs h0 rfl)) (fun q3 => ?_)
  obtain ⟨o, ho, rfl⟩ := nI_in1 (by omega) (b10n q1)
  obtain ⟨i, hi, rfl⟩ := nI_in1 (by omega) (b10n q2)
  have oi : j_ok (nI i) 100 = true := j_ok_nI (by omega) (by decide)
  rw [j_ix_nI (by omega)]
  have q := w_worth hF hr0 hi x3 (nI o) (nI o) (Or.inr ⟨o, ho, rfl, rfl⟩)
  rw [if_pos (nI_pos' (by omega)), bd_id] at q
  refine wp2_Lp oi (wp2_bd (wp2_mono q ?_))
  rintro v J' w K' ⟨rfl, hsc⟩
  obtain ⟨k1, k2, k3, k4, -⟩ := RR_scr hr0 hsc
  exact wp2_mk rfl rfl (op_fin (s' := s) hs rfl rfl k3 k4 ⟨k1, by rw [k2]; exact h1, h2⟩)
theorem pr_out {F : Nat} {s : Nat → Nat} {J K : j_M} {i : Nat} (hF : 20000000 < F) (hr : RR F s J K) (hi : i < s 1) (h3 : vw 43 100 J i 3 ≠ 2) : j_wp2 (f_G_showOut F i J) (f_M_goesOut F (nI i) K) (fun v J' _ K' => ∃ s', (∀ k, k ≠ 8 → s' k = s k) ∧ RR F s' J' K' ∧ v = K' 230 i ∧ vw 43 100 J' = vup (vup (vup (vup (vup (vw 43 100 J) i 8 v) i 6 (-1)) i 3 2) i 4 (-1)) i 5 (-1) ∧ frJ J J' ∧ frK K K') := by
  have i100 : i < 100 := Nat.lt_of_lt_of_le hi (RR_c1 hr)
  have oi : j_ok (nI i) 100 = true := j_ok_nI i100 (by decide)
  unfold f_G_showOut f_M_goesOut
  rw [← bd_bd (f := fun v I => f_G_worth F v i 0 I)]
  refine wp2_bd (wp2_mono (pr_ton hF hr hi 2 0) ?_)
  rintro v J1 w K1 ⟨rfl, hsc1⟩
  obtain ⟨m1, m2, m3, m4, -⟩ := RR_scr hr hsc1
  simp only [oi, if_true, j_letE, j_ix_nI (show i < 2 ^ 31 by omega)]
  rw [jvw_wr1 (lo := 43) (hi := 100) i100, vw_wr (by decide), m2]
  have hv0 : v0 100 (vup (vw 43 100 J) i 8 v) := v0_up (v0_vw _ _ _) i100
  have hr2 : RR F s (jvw (j_wr J1 0 14 (J1 0 14 - v)) 43 100 (vup (vw 43 100 J) i 8 v)) (j_wr (j_wr K1 230 i v) 215 26 (j_wr K1 230 i v 215 26 - j_wr K1 230 i v 230 i)) := by
    obtain ⟨a0, b0, c0, a1, b1, c1, a2, b2, c2, a3, b3, c3, d3, a4, b4, c4, a5, b5, c5, a6, b6, c6, a7, b7, c7, a8, b8, c8, a9, b9, c9, a10, b10, c10, a11, b11, c11, a12, a15, c15, a14, b14, c14, e1, e2, e3, e4, e5, e6, r1, r2, r3, r4, r5, r6, r7, r8, r9, r10, r11, r12, r13, r14, r15, r16, r17, hwk, hso, hrn, hnu, hpt, hrg, hbx, hor, hsa, hsb, hsc, hsn, hwz, hth, hla, hli, hlt, hpr, hby, htp, hrm, hhd, hlr, hK⟩ := m1
    rw [m2] at hpt hnu hrg hbx hsa hsb hsc hsn hhd
    exact ⟨a0, b0, c0, a1, b1, c1, a2, b2, c2, a3, b3, c3, d3, a4, b4, c4, a5, b5, c5, a6, b6, c6, a7, b7, c7, a8, b8, c8, a9, b9, c9, a10, b10, c10, a11, b11, c11, a12, a15, c15, a14, b14, c14, e1, e2, (show J1 0 14 - v = K1 215 26 - j_wr K1 230 i v 230 i by rw [e3, j_wr_same]), e4, e5, e6, r1, r2, r3, r4, r5, r6, r7, r8, r9, r10, r11, r12, r13, r14, r15, r16, r17, (by (try simp (disch := decide) only [vw_wr, vw_rw, vw_jvo]); exact hwk), hso, hrn, (by (try simp (disch := decide) only [vw_wr, vw_rw]); rw [vw_jvw (by assumption)]; exact hnu), (by (try simp (disch := decide) only [vw_wr, vw_rw]); rw [vw_jvw (by assumption)]; exact (l_pt8 hpt (j_wr_same _ _ _ _) (fun j e => j_wr_idx _ _ _ e))), (by (try simp (disch := decide) only [vw_wr, vw_rw]); rw [vw_jvw (by assumption)]; exact hrg), (by (try simp (disch := decide) only [vw_wr, vw_rw]); rw [vw_jvw (by assumption)]; exact hbx), hor, (by (try simp (disch := decide) only [vw_wr, vw_rw]); rw [vw_jvw (by assumption)]; exact hsa), (by (try simp (disch := decide) only [vw_wr, vw_rw]); rw [vw_jvw (by assumption)]; exact hsb), (by (try simp (disch := decide) only [vw_wr, vw_rw]); rw [vw_jvw (by assumption)]; exact hsc), (by (try simp (disch := decide) only [vw_wr, vw_rw]); rw [vw_jvw (by assumption)]; exact hsn), hwz, hth, (by (try simp (disch := decide) only [vw_wr, vw_rw, vw_jvo]); exact hla), hli, hlt, hpr, hby, htp, hrm, (by (try simp (disch := decide) only [vw_wr, vw_rw]); rw [vw_jvw (by assumption)]; exact hhd), hlr, hK⟩
  have f1 : frJ J (jvw (j_wr J1 0 14 (J1 0 14 - v)) 43 100 (vup (vw 43 100 J) i 8 v)) := frJ_vw (by decide) (frJ_wr (by decide) m3)
  have f2 : frK K (j_wr (j_wr K1 230 i v) 215 26 (j_wr K1 230 i v 215 26 - j_wr K1 230 i v 230 i)) := frK_wr (by decide) (frK_wr (by decide) m4)
  refine wp2_bd (wp2_mono (pr_quit hF hr2 hi) ?_)
  rintro v3 J3 w3 K3 ⟨n8, k1, k2, -, k3, k4⟩
  rw [vw_jvw hv0] at k2
  have k5 : vw 43 100 J3 i 6 = -1 := by rw [k2, vup_at]
  have k6 : vw 43 100 J3 i 3 = vw 43 100 J i 3 := by rw [k2]; rfl
  have hs8 : ∀ k, k ≠ 8 → p_up (p_up s 8 n8) 13 (s 13) k = s k := fun k hk => by
    unfold p_up
    by_cases e : k = 13
    · rw [if_pos e, e]
    · rw [if_neg e, if_neg hk]
  have fin : ∀ u, RR F (p_up (p_up s 8 n8) 13 (s 13)) (jvw (j_rw J3 147 u) 43 100 (vup (vup (vup (vw 43 100 J3) i 3 2) i 4 (-1)) i 5 (-1))) (j_wr (j_wr (j_wr K3 225 i 2) 226 i (-1)) 227 i (-1)) → j_wp2 (f_G_showOut_61 F i v (j_rw J3 147 u)) (some (0, (j_wr (j_wr (j_wr K3 225 i 2) 226 i (-1)) 227 i (-1)))) (fun v J' (_ : Int32) K' => ∃ s', (∀ k, k ≠ 8 → s' k = s k) ∧ RR F s' J' K' ∧ v = K' 230 i ∧ vw 43 100 J' = vup (vup (vup (vup (vup (vw 43 100 J) i 8 v) i 6 (-1)) i 3 2) i 4 (-1)) i 5 (-1) ∧ frJ J J' ∧ frK K K') := by
    intro u hru
    unfold f_G_showOut_61
    simp only [j_letE]
    rw [jvw_wr1 (lo := 43) (hi := 100) (J := j_rw J3 147 u) (k := 3) i100, jvw_wr2 (lo := 43) (hi := 100) i100, jvw_wr2 (lo := 43) (hi := 100) i100, vw_rw (by decide)]
    have hv : vw 43 100 (jvw (j_rw J3 147 u) 43 100 (vup (vup (vup (vw 43 100 J3) i 3 2) i 4 (-1)) i 5 (-1))) = vup (vup (vup (vup (vup (vw 43 100 J) i 8 v) i 6 (-1)) i 3 2) i 4 (-1)) i 5 (-1) := by
      rw [vw_jvw (v0_up (v0_up (v0_up (v0_vw _ _ _) i100) i100) i100), k2]
    refine wp2_mk rfl rfl ⟨_, hs8, hru, ?_, hv, frJ_vw (by decide) (frJ_rw (by decide) (frJ_tr f1 k3)), frK_wr (by decide) (frK_wr (by decide) (frK_wr (by decide) (frK_tr f2 k4)))⟩
    have q := (RR_hpt hru i hi).2.2.2.2.2.2.2.1
    rw [hv] at q
    rw [← q]
    exact (vup_at (vw 43 100 J) i 8 v).symm
  rw [vw_at (lo := 43) (I := J3) (b := 3) i100, k6]
  by_cases z : vw 43 100 J i 3 = 0
  · obtain ⟨u, w1, w2⟩ := pr_end (F := F) (K2 := s 13) (c := 2) (x := -1) (y := -1) k1 hi (k6.trans z) ⟨Nat.le_refl _, RR_hK hr2⟩ (Or.inr ⟨rfl, k5⟩) (by rw [if_pos rfl]; omega)
    refine wp2_Lp z ?_
    rw [w1]
    exact fin u w2
  · refine wp2_Ln z ?_
    have q := fin (J3 147) (rr_dep (F := F) (K2 := s 13) (c := 2) (x := -1) (y := -1) k1 hi ⟨Nat.le_refl _, RR_hK hr2⟩ (Or.inr ⟨rfl, k5⟩) (by rw [if_pos rfl]; omega) ?_ ?_ ?_)
    · rw [rw_self] at q; exact q
    · exact RR_hsa k1
    · intro t ht
      obtain ⟨p, f, y1, y2, y3, y4, y5⟩ := RR_hsb k1 t ht
      refine ⟨p, f, y1, y2, y3, y4, ?_⟩
      rcases y5 with y5 | ⟨z1, z2, z3⟩
      · exact Or.inl y5
      · have e : p ≠ i := fun q => by subst q; exact z (k6.symm.trans z2)
        refine Or.inr ⟨z1, ?_, ?_⟩
        · rw [vup_ne _ _ _ _ e, vup_ne _ _ _ _ e, vup_ne _ _ _ _ e]; exact z2
        · rw [vup_ne _ _ _ _ e, vup_ne _ _ _ _ e, vup_ne _ _ _ _ e]; exact z3
    · intro p hp z3
      have e : p ≠ i := fun q => by
        subst q
        have : vup (vw 43 100 J3) p 3 2 p 3 = 0 := z3
        rw [vup_at] at this
        exact absurd this (by decide)
      rw [vup_ne _ _ _ _ e, vup_ne _ _ _ _ e, vup_ne _ _ _ _ e] at z3
      rw [vup_ne _ _ _ _ e, vup_ne _ _ _ _ e, vup_ne _ _ _ _ e, vup_ne _ _ _ _ e, vup_ne _ _ _ _ e, vup_ne _ _ _ _ e]
      exact RR_hsc k1 p hp z3
theorem op_leave (F : Nat) (hF : 20000000 < F) (x1 : Int32) : OP F (f_G_leave F x1) (f_M_leave F x1) := by
  intro s J K hs h
  have h0 := h
  obtain ⟨hr, h1, h2⟩ := h
  have hr0 := hr
  obtain ⟨a0, b0, c0, a1, b1, c1, a2, b2, c2, a3, b3, c3, d3, a4, b4, c4, a5, b5, c5, a6, b6, c6, a7, b7, c7, a8, b8, c8, a9, b9, c9, a10, b10, c10, a11, b11, c11, a12, a15, c15, a14, b14, c14, e1, e2, e3, e4, e5, e6, r1, r2, r3, r4, r5, r6, r7, r8, r9, r10, r11, r12, r13, r14, r15, r16, r17, hwk, hso, hrn, hnu, hpt, hrg, hbx, hor, hsa, hsb, hsc, hsn, hwz, hth, hla, hli, hlt, hpr, hby, htp, hrm, hhd, hlr, hK⟩ := hr
  simp only [f_G_leave, f_M_leave, e_Gu_has, e_isPa F x1 K b1 (by omega), j_bdS, j_letE, a1]
  refine wp2_ite Iff.rfl (fun q1 => wp2_mk rfl rfl (op_idle hs h0 rfl)) (fun q1 => ?_)
  obtain ⟨i, hi, rfl⟩ := nI_in1 (by omega) (b10n q1)
  have i100 : i < 100 := by omega
  have oi : j_ok (nI i) 100 = true := j_ok_nI i100 (by decide)
  obtain ⟨p1, p2, p3, p4, p5, p6, p7, p8, p9, p10⟩ := hpt i hi
  simp only [oi, if_true, j_ix_nI (show i < 2 ^ 31 by omega), vw_at i100, ← p3, ← p4]
  refine wp2_ite Iff.rfl (fun z3 => ?_) (fun _ => wp2_mk rfl rfl (op_idle hs h0 rfl))
  refine wp2_ite Iff.rfl (fun z4 => ?_) (fun _ => wp2_mk rfl rfl (op_idle hs h0 rfl))
  refine wp2_bd (wp2_mono (pr_out hF hr0 hi (by rw [z3]; decide)) ?_)
  rintro v J' w K' ⟨s', t1, t2, t3, t4, t5, t6⟩
  refine wp2_mk rfl rfl (op_fin (s' := s') hs (t1 13 (by decide)) t3 t5 t6 ⟨t2, ?_, ?_⟩)
  · rw [t4, t1 1 (by decide), t1 2 (by decide)]
    intro j hj z
    by_cases ej : j = i
    · subst ej
      have : vup (vup (vup (vw 43 100 J) j 8 v) j 6 (-1)) j 3 2 j 3 = 1 := z
      rw [vup_at] at this
      exact absurd this (by decide)
    · rw [vup_ne _ _ _ _ ej, vup_ne _ _ _ _ ej, vup_ne _ _ _ _ ej, vup_ne _ _ _ _ ej, vup_ne _ _ _ _ ej] at z
      rw [vup_ne _ _ _ _ ej, vup_ne _ _ _ _ ej, vup_ne _ _ _ _ ej, vup_ne _ _ _ _ ej, vup_ne _ _ _ _ ej]
      exact h1 j hj z
  · rw [t1 15 (by decide), t1 2 (by decide)]; exact h2
