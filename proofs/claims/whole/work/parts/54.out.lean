/-! going out; what a price gives; entering -/
theorem bd_bd {α β γ : Type} {o : Option (α × j_M)} {f : α → j_M → Option (β × j_M)} {g : β → j_M → Option γ} : j_bd (j_bd o f) g = j_bd o (fun v I => j_bd (f v I) g) := by
  rcases o with _ | ⟨v, I⟩ <;> rfl
theorem pr_ton {F : Nat} {s : Nat → Nat} {J K : j_M} {i : Nat} (hF : 20000000 < F) (hr : RR F s J K) (hi : i < s 1) (kd x : Int32) : j_wp2 (j_bd (f_Pr_latest F kd (J 0 10) (J 0 10) J) (fun v I => f_G_worth F v i x I)) (f_M_tonight F kd (nI i) x K) (fun v J' w K' => v = w ∧ p_scr J K J' K') := by
  have hr0 := hr
  obtain ⟨a0, b0, c0, a1, b1, c1, a2, b2, c2, a3, b3, c3, d3, a4, b4, c4, a5, b5, c5, a6, b6, c6, a7, b7, c7, a8, b8, c8, a9, b9, c9, a10, b10, c10, a11, b11, c11, a12, a15, c15, a14, b14, c14, e1, e2, e3, e4, e5, e6, r1, r2, r3, r4, r5, r6, r7, r8, r9, r10, r11, r12, r13, r14, r15, r16, r17, hwk, hso, hrn, hnu, hpt, hrg, hbx, hor, hsa, hsb, hsc, hsn, hwz, hth, hla, hli, hlt, hpr, hby, htp, hK⟩ := hr
  unfold f_M_tonight
  rw [a3, b3]
  refine wp2_bd (wp2_mono (l_latest kd (nI (s 3)) (nI (s 3)) hF a9 b9 c9 r10 r11 r12) ?_)
  rintro v J' w K' ⟨hl, e1, e2⟩
  rw [e1, e2]
  exact w_worth hF hr0 hi x v w hl
theorem RR_scr {F : Nat} {s : Nat → Nat} {J K J' K' : j_M} (hr : RR F s J K) (h : p_scr J K J' K') : RR F s J' K' ∧ vw 43 100 J' = vw 43 100 J ∧ frJ J J' ∧ frK K K' ∧ ∀ c, c < 208 → J' c = J c := by
  obtain ⟨⟨g1, g2, rfl⟩, ⟨g3, g4, rfl⟩⟩ := h
  obtain ⟨a0, b0, c0, a1, b1, c1, a2, b2, c2, a3, b3, c3, d3, a4, b4, c4, a5, b5, c5, a6, b6, c6, a7, b7, c7, a8, b8, c8, a9, b9, c9, a10, b10, c10, a11, b11, c11, a12, a15, c15, a14, b14, c14, e1, e2, e3, e4, e5, e6, r1, r2, r3, r4, r5, r6, r7, r8, r9, r10, r11, r12, r13, r14, r15, r16, r17, hwk, hso, hrn, hnu, hpt, hrg, hbx, hor, hsa, hsb, hsc, hsn, hwz, hth, hla, hli, hlt, hpr, hby, htp, hK⟩ := hr
  refine ⟨?_, by simp (disch := decide) only [vw_rw], frJ_rw (by decide) (frJ_rw (by decide) (frJ_rf _)), frK_rw (by decide) (frK_rw (by decide) (frK_rf _)), fun c hc => ?_⟩
  · exact ⟨a0, b0, c0, a1, b1, c1, a2, b2, c2, a3, b3, c3, d3, a4, b4, c4, a5, b5, c5, a6, b6, c6, a7, b7, c7, a8, b8, c8, a9, b9, c9, a10, b10, c10, a11, b11, c11, a12, a15, c15, a14, b14, c14, e1, e2, e3, e4, e5, e6, r1, r2, r3, r4, r5, r6, r7, r8, r9, r10, r11, r12, r13, r14, r15, r16, r17, (by (try simp (disch := decide) only [vw_wr, vw_rw, vw_jvo]); exact hwk), hso, hrn, (by (try simp (disch := decide) only [vw_wr, vw_rw, vw_jvo]); exact hnu), (by (try simp (disch := decide) only [vw_wr, vw_rw, vw_jvo]); exact hpt), (by (try simp (disch := decide) only [vw_wr, vw_rw, vw_jvo]); exact hrg), (by (try simp (disch := decide) only [vw_wr, vw_rw, vw_jvo]); exact hbx), hor, (by (try simp (disch := decide) only [vw_wr, vw_rw, vw_jvo]); exact hsa), (by (try simp (disch := decide) only [vw_wr, vw_rw, vw_jvo]); exact hsb), (by (try simp (disch := decide) only [vw_wr, vw_rw, vw_jvo]); exact hsc), (by (try simp (disch := decide) only [vw_wr, vw_rw, vw_jvo]); exact hsn), hwz, hth, (by (try simp (disch := decide) only [vw_wr, vw_rw, vw_jvo]); exact hla), hli, hlt, hpr, hby, htp, hK⟩
  · rw [rw_ne (show c ≠ 208 by omega), rw_ne (show c ≠ 209 by omega)]
theorem op_gives (F : Nat) (hF : 20000000 < F) (x1 x2 x3 : Int32) : OP F (f_G_gives F x1 x2 x3) (f_M_gives F x1 x2 x3) := by
  intro s J K hs h
  have h0 := h
  obtain ⟨hr, h1, h2⟩ := h
  have hr0 := hr
  obtain ⟨a0, b0, c0, a1, b1, c1, a2, b2, c2, a3, b3, c3, d3, a4, b4, c4, a5, b5, c5, a6, b6, c6, a7, b7, c7, a8, b8, c8, a9, b9, c9, a10, b10, c10, a11, b11, c11, a12, a15, c15, a14, b14, c14, e1, e2, e3, e4, e5, e6, r1, r2, r3, r4, r5, r6, r7, r8, r9, r10, r11, r12, r13, r14, r15, r16, r17, hwk, hso, hrn, hnu, hpt, hrg, hbx, hor, hsa, hsb, hsc, hsn, hwz, hth, hla, hli, hlt, hpr, hby, htp, hK⟩ := hr
  simp only [f_G_gives, f_M_gives, e_Pr_has, e_Gu_has, e_within, e_among, e_isPa F x2 K b1 (by omega), j_bdS, j_letE, a1, a9, b9, nI_pm (n := s 9) (by omega)]
  refine wp2_ite Iff.rfl (fun q1 => wp2_mk rfl rfl (op_idle hs h0 rfl)) (fun q1 => ?_)
  refine wp2_ite Iff.rfl (fun q1 => wp2_mk rfl rfl (op_idle hs h0 rfl)) (fun q2 => ?_)
  refine wp2_ite Iff.rfl (fun q1 => wp2_mk rfl rfl (op_idle hs h0 rfl)) (fun q3 => ?_)
  obtain ⟨o, ho, rfl⟩ := nI_in1 (by omega) (b10n q1)
  obtain ⟨i, hi, rfl⟩ := nI_in1 (by omega) (b10n q2)
  have oi : j_ok (nI i) 100 = true := j_ok_nI (by omega) (by decide)
  rw [j_ix_nI (by omega)]
  have q := w_worth hF hr0 hi x3 (nI o) (nI o) (Or.inr ⟨o, ho, rfl, rfl⟩)
  rw [if_pos (nI_pos' (by omega)), bd_id] at q
  refine wp2_Lp oi (wp2_bd (wp2_mono q ?_))
  rintro v J' w K' ⟨rfl, hsc⟩
  obtain ⟨k1, k2, k3, k4, -⟩ := RR_scr hr0 hsc
  exact wp2_mk rfl rfl (op_fin (s' := s) hs rfl rfl k3 k4 ⟨k1, by rw [k2]; exact h1, h2⟩)
theorem pr_out {F : Nat} {s : Nat → Nat} {J K : j_M} {i : Nat} (hF : 20000000 < F) (hr : RR F s J K) (hi : i < s 1) (h3 : vw 43 100 J i 3 ≠ 2) : j_wp2 (f_G_showOut F i J) (f_M_goesOut F (nI i) K) (fun v J' _ K' => ∃ s', (∀ k, k ≠ 8 → s' k = s k) ∧ RR F s' J' K' ∧ v = K' 230 i ∧ vw 43 100 J' = vup (vup (vup (vup (vup (vw 43 100 J) i 8 v) i 6 (-1)) i 3 2) i 4 (-1)) i 5 (-1) ∧ frL J J' ∨ False) := by
  sorry
