/-! calls over loops that change nothing -/
theorem op_heads (F : Nat) (hF : 20000000 < F) (x1 : Int32) : OP F (f_G_heads F x1) (f_M_heads F x1) := by
  intro s J K hs h
  have h0 := h
  obtain ⟨hr, h1, h2⟩ := h
  obtain ⟨a0, b0, c0, a1, b1, c1, a2, b2, c2, a3, b3, c3, d3, a4, b4, c4, a5, b5, c5, a6, b6, c6, a7, b7, c7, a8, b8, c8, a9, b9, c9, a10, b10, c10, a11, b11, c11, a12, a15, c15, a14, b14, c14, e1, e2, e3, e4, e5, e6, r1, r2, r3, r4, r5, r6, r7, r8, r9, r10, r11, r12, r13, r14, r15, r16, r17, hwk, hso, hrn, hnu, hpt, hrg, hbx, hor, hsa, hsb, hsc, hsn, hwz, hth, hla, hli, hlt, hpr, hby, htp, hrm, hhd, hlr, hK⟩ := hr
  simp only [f_G_heads, f_M_heads, e_Gr_has, e_isPl F x1 K b0 (by omega), j_bdS, j_letE, a0]
  refine wp2_ite Iff.rfl (fun q1 => wp2_mk rfl rfl (op_idle hs h0 rfl)) (fun q1 => ?_)
  refine wp2_bd (wp2_mono (l_headsAt x1 hF a1 b1 c1 (fun i hi => ⟨(hpt i hi).1, (hpt i hi).2.2.1, (hpt i hi).2.2.2.1⟩)) ?_)
  rintro v J' w K' ⟨rfl, rfl, rfl⟩
  exact wp2_mk rfl rfl (op_idle hs h0 rfl)
theorem op_count (F : Nat) (hF : 20000000 < F) (x1 : Int32) : OP F (f_G_count F x1) (f_M_count F x1) := by
  intro s J K hs h
  have h0 := h
  obtain ⟨hr, h1, h2⟩ := h
  obtain ⟨a0, b0, c0, a1, b1, c1, a2, b2, c2, a3, b3, c3, d3, a4, b4, c4, a5, b5, c5, a6, b6, c6, a7, b7, c7, a8, b8, c8, a9, b9, c9, a10, b10, c10, a11, b11, c11, a12, a15, c15, a14, b14, c14, e1, e2, e3, e4, e5, e6, r1, r2, r3, r4, r5, r6, r7, r8, r9, r10, r11, r12, r13, r14, r15, r16, r17, hwk, hso, hrn, hnu, hpt, hrg, hbx, hor, hsa, hsb, hsc, hsn, hwz, hth, hla, hli, hlt, hpr, hby, htp, hrm, hhd, hlr, hK⟩ := hr
  unfold f_G_count f_M_count
  refine wp2_ite Iff.rfl (fun q1 => wp2_mk rfl rfl (op_idle hs h0 (a0.trans b0.symm))) (fun q1 => ?_)
  refine wp2_ite Iff.rfl (fun q1 => wp2_mk rfl rfl (op_idle hs h0 (a1.trans b1.symm))) (fun q1 => ?_)
  refine wp2_ite Iff.rfl (fun q1 => ?_) (fun q1 => ?_)
  · refine wp2_bd (wp2_mono (l_headsIn hF a1 b1 c1 (fun i hi => ⟨(hpt i hi).1, (hpt i hi).2.2.1⟩)) ?_)
    rintro v J' w K' ⟨rfl, rfl, rfl⟩
    exact wp2_mk rfl rfl (op_idle hs h0 rfl)
  refine wp2_ite Iff.rfl (fun q1 => wp2_mk rfl rfl (op_idle hs h0 (a5.trans b5.symm))) (fun q1 => ?_)
  refine wp2_ite Iff.rfl (fun q1 => wp2_mk rfl rfl (op_idle hs h0 (a6.trans b6.symm))) (fun q1 => ?_)
  refine wp2_ite Iff.rfl (fun q1 => wp2_mk rfl rfl (op_idle hs h0 (a7.trans b7.symm))) (fun q1 => ?_)
  refine wp2_ite Iff.rfl (fun q1 => wp2_mk rfl rfl (op_idle hs h0 (a8.trans b8.symm))) (fun q1 => ?_)
  refine wp2_ite Iff.rfl (fun q1 => wp2_mk rfl rfl (op_idle hs h0 e4)) (fun q1 => ?_)
  refine wp2_ite Iff.rfl (fun q1 => wp2_mk rfl rfl (op_idle hs h0 (a9.trans b9.symm))) (fun q1 => ?_)
  refine wp2_ite Iff.rfl (fun q1 => wp2_mk rfl rfl (op_idle hs h0 (a3.trans b3.symm))) (fun q1 => ?_)
  refine wp2_ite Iff.rfl (fun q1 => wp2_mk rfl rfl (op_idle hs h0 (a2.trans b2.symm))) (fun q1 => ?_)
  refine wp2_ite Iff.rfl (fun q1 => wp2_mk rfl rfl (op_idle hs h0 (a10.trans b10.symm))) (fun q1 => ?_)
  refine wp2_ite Iff.rfl (fun q1 => wp2_mk rfl rfl (op_idle hs h0 e1)) (fun q1 => ?_)
  refine wp2_ite Iff.rfl (fun q1 => wp2_mk rfl rfl (op_idle hs h0 e2)) (fun q1 => ?_)
  refine wp2_ite Iff.rfl (fun q1 => wp2_mk rfl rfl (op_idle hs h0 e3)) (fun q1 => ?_)
  refine wp2_ite Iff.rfl (fun q1 => wp2_mk rfl rfl (op_idle hs h0 e6)) (fun q1 => wp2_mk rfl rfl (op_idle hs h0 rfl))
theorem op_inForce (F : Nat) (hF : 20000000 < F) (x1 x2 x3 : Int32) : OP F (f_G_inForce F x1 x2 x3) (f_M_inForce F x1 x2 x3) := by
  intro s J K hs h
  have h0 := h
  obtain ⟨hr, h1, h2⟩ := h
  obtain ⟨a0, b0, c0, a1, b1, c1, a2, b2, c2, a3, b3, c3, d3, a4, b4, c4, a5, b5, c5, a6, b6, c6, a7, b7, c7, a8, b8, c8, a9, b9, c9, a10, b10, c10, a11, b11, c11, a12, a15, c15, a14, b14, c14, e1, e2, e3, e4, e5, e6, r1, r2, r3, r4, r5, r6, r7, r8, r9, r10, r11, r12, r13, r14, r15, r16, r17, hwk, hso, hrn, hnu, hpt, hrg, hbx, hor, hsa, hsb, hsc, hsn, hwz, hth, hla, hli, hlt, hpr, hby, htp, hrm, hhd, hlr, hK⟩ := hr
  simp only [f_G_inForce, f_M_inForce, e_within, e_among, e_isNi, j_bdS, j_letE]
  refine wp2_ite Iff.rfl (fun q1 => wp2_mk rfl rfl (op_idle hs h0 rfl)) (fun q1 => ?_)
  refine wp2_ite Iff.rfl (fun q1 => wp2_mk rfl rfl (op_idle hs h0 rfl)) (fun q1 => ?_)
  refine wp2_ite Iff.rfl (fun q1 => wp2_mk rfl rfl (op_idle hs h0 rfl)) (fun q1 => ?_)
  refine wp2_bd (wp2_mono (l_latest x1 x2 x3 hF a9 b9 c9 r10 r11 r12) ?_)
  rintro v J' w K' ⟨hl, rfl, rfl⟩
  rcases hl with ⟨rfl, rfl⟩ | ⟨o, ho, rfl, rfl⟩
  · exact wp2_Lp rfl (wp2_mk rfl rfl (op_idle hs h0 rfl))
  · exact wp2_Ln (nI_nem (by omega)) (wp2_mk rfl rfl (op_idle hs h0 rfl))
theorem op_in (F : Nat) (hF : 20000000 < F) (x1 : Int32) : OP F (f_G_in F x1) (f_M_in F x1) := by
  intro s J K hs h
  have h0 := h
  obtain ⟨hr, h1, h2⟩ := h
  obtain ⟨a0, b0, c0, a1, b1, c1, a2, b2, c2, a3, b3, c3, d3, a4, b4, c4, a5, b5, c5, a6, b6, c6, a7, b7, c7, a8, b8, c8, a9, b9, c9, a10, b10, c10, a11, b11, c11, a12, a15, c15, a14, b14, c14, e1, e2, e3, e4, e5, e6, r1, r2, r3, r4, r5, r6, r7, r8, r9, r10, r11, r12, r13, r14, r15, r16, r17, hwk, hso, hrn, hnu, hpt, hrg, hbx, hor, hsa, hsb, hsc, hsn, hwz, hth, hla, hli, hlt, hpr, hby, htp, hrm, hhd, hlr, hK⟩ := hr
  simp only [f_G_in, f_M_in, e_Bo_has, e_isBo F x1 K b7 (by omega), j_bdS, j_letE, a7]
  refine wp2_ite Iff.rfl (fun q1 => wp2_mk rfl rfl (op_idle hs h0 rfl)) (fun q1 => ?_)
  obtain ⟨b, hb, rfl⟩ := nI_in1 (by omega) (b10n q1)
  have o : j_ok (nI b) 20 = true := j_ok_nI (by omega) (by decide)
  refine wp2_Lp o (wp2_R (wpo_mono (l_whoIn (J := J) hF b1 c1 hb (fun i hi => (hpt i hi).2.2.2.2.2.1) hbx) ?_))
  rintro w K' ⟨rfl, hh⟩
  rw [j_ix_nI (by omega)]
  rcases hh with ⟨y1, rfl⟩ | ⟨i, hi, y1, rfl⟩
  · exact wp2_Lp y1 (wp2_mk rfl rfl (op_idle hs h0 rfl))
  · exact wp2_Ln (by rw [y1]; exact nI_nem (by omega)) (wp2_Lp o (wp2_mk rfl rfl (op_idle hs h0 y1)))
theorem op_rule (F : Nat) (x1 x2 : Int32) : OP F (f_G_rule F x1 x2) (f_M_rule F x1 x2) := by
  intro s J K hs h
  have h0 := h
  obtain ⟨hr, h1, h2⟩ := h
  obtain ⟨a0, b0, c0, a1, b1, c1, a2, b2, c2, a3, b3, c3, d3, a4, b4, c4, a5, b5, c5, a6, b6, c6, a7, b7, c7, a8, b8, c8, a9, b9, c9, a10, b10, c10, a11, b11, c11, a12, a15, c15, a14, b14, c14, e1, e2, e3, e4, e5, e6, r1, r2, r3, r4, r5, r6, r7, r8, r9, r10, r11, r12, r13, r14, r15, r16, r17, hwk, hso, hrn, hnu, hpt, hrg, hbx, hor, hsa, hsb, hsc, hsn, hwz, hth, hla, hli, hlt, hpr, hby, htp, hrm, hhd, hlr, hK⟩ := hr
  simp only [f_G_rule, f_M_rule, f_G_rule_32, f_M_rule_34, f_M_rule_49, e_within, e_among, j_bdS, j_letE]
  refine wp2_ite Iff.rfl (fun q1 => ?_) (fun q1 => ?_)
  · subst q1
    refine wp2_ite Iff.rfl (fun q2 => wp2_Ln (by decide) (wp2_mk rfl rfl (op_idle hs h0 rfl))) (fun q2 => wp2_Rp rfl (wp2_Rp rfl ?_))
    refine wp2_mk rfl rfl (op_fin (s' := s) hs rfl e5 (frJ_wr (by decide) (frJ_rf _)) (frK_wr (by decide) (frK_rf _)) ⟨?_, ?_, h2⟩)
    · exact ⟨a0, b0, c0, a1, b1, c1, a2, b2, c2, a3, b3, c3, d3, a4, b4, c4, a5, b5, c5, a6, b6, c6, a7, b7, c7, a8, b8, c8, a9, b9, c9, a10, b10, c10, a11, b11, c11, a12, a15, c15, a14, b14, c14, e1, e2, e3, e4, rfl, e6, r1, r2, r3, r4, r5, r6, r7, r8, r9, r10, r11, r12, r13, r14, r15, r16, r17, (by (try simp (disch := decide) only [vw_wr, vw_rw, vw_jvo]); exact hwk), hso, hrn, (by (try simp (disch := decide) only [vw_wr, vw_rw, vw_jvo]); exact hnu), (by (try simp (disch := decide) only [vw_wr, vw_rw, vw_jvo]); exact hpt), (by (try simp (disch := decide) only [vw_wr, vw_rw, vw_jvo]); exact hrg), (by (try simp (disch := decide) only [vw_wr, vw_rw, vw_jvo]); exact hbx), hor, (by (try simp (disch := decide) only [vw_wr, vw_rw, vw_jvo]); exact hsa), (by (try simp (disch := decide) only [vw_wr, vw_rw, vw_jvo]); exact hsb), (by (try simp (disch := decide) only [vw_wr, vw_rw, vw_jvo]); exact hsc), (by (try simp (disch := decide) only [vw_wr, vw_rw, vw_jvo]); exact hsn), hwz, hth, (by (try simp (disch := decide) only [vw_wr, vw_rw, vw_jvo]); exact hla), hli, hlt, hpr, hby, htp, hrm, (by (try simp (disch := decide) only [vw_wr, vw_rw, vw_jvo]); exact hhd), hlr, hK⟩
    · rw [vw_wr (by decide)]; exact h1
  · refine wp2_ite Iff.rfl (fun q2 => ?_) (fun q2 => wp2_mk rfl rfl (op_idle hs h0 rfl))
    subst q2
    refine wp2_ite Iff.rfl (fun q2 => wp2_mk rfl rfl (op_idle hs h0 rfl)) (fun q2 => wp2_Rn (by decide) (wp2_Rn (by decide) ?_))
    obtain ⟨i, hi, rfl⟩ := nI_in2 9 rfl (by omega) (b10n q2)
    refine wp2_mk rfl rfl (op_fin (s' := p_up s 14 i) hs rfl (a14.trans b14.symm) (frJ_wr (by decide) (frJ_rf _)) (frK_wr (by decide) (frK_rf _)) ⟨?_, ?_, h2⟩)
    · exact ⟨a0, b0, c0, a1, b1, c1, a2, b2, c2, a3, b3, c3, d3, a4, b4, c4, a5, b5, c5, a6, b6, c6, a7, b7, c7, a8, b8, c8, a9, b9, c9, a10, b10, c10, a11, b11, c11, a12, a15, c15, rfl, rfl, hi, e1, e2, e3, e4, e5, e6, r1, r2, r3, r4, r5, r6, r7, r8, r9, r10, r11, r12, r13, r14, r15, r16, r17, (by (try simp (disch := decide) only [vw_wr, vw_rw, vw_jvo]); exact hwk), hso, hrn, (by (try simp (disch := decide) only [vw_wr, vw_rw, vw_jvo]); exact hnu), (by (try simp (disch := decide) only [vw_wr, vw_rw, vw_jvo]); exact hpt), (by (try simp (disch := decide) only [vw_wr, vw_rw, vw_jvo]); exact hrg), (by (try simp (disch := decide) only [vw_wr, vw_rw, vw_jvo]); exact hbx), hor, (by (try simp (disch := decide) only [vw_wr, vw_rw, vw_jvo]); exact hsa), (by (try simp (disch := decide) only [vw_wr, vw_rw, vw_jvo]); exact hsb), (by (try simp (disch := decide) only [vw_wr, vw_rw, vw_jvo]); exact hsc), (by (try simp (disch := decide) only [vw_wr, vw_rw, vw_jvo]); exact hsn), hwz, hth, (by (try simp (disch := decide) only [vw_wr, vw_rw, vw_jvo]); exact hla), hli, hlt, hpr, hby, htp, hrm, (by (try simp (disch := decide) only [vw_wr, vw_rw, vw_jvo]); exact hhd), hlr, hK⟩
    · rw [vw_wr (by decide)]; exact h1
theorem op_order (F : Nat) (x1 x2 : Int32) : OP F (f_G_order F x1 x2) (f_M_order F x1 x2) := by
  intro s J K hs h
  have h0 := h
  obtain ⟨hr, h1, h2⟩ := h
  obtain ⟨a0, b0, c0, a1, b1, c1, a2, b2, c2, a3, b3, c3, d3, a4, b4, c4, a5, b5, c5, a6, b6, c6, a7, b7, c7, a8, b8, c8, a9, b9, c9, a10, b10, c10, a11, b11, c11, a12, a15, c15, a14, b14, c14, e1, e2, e3, e4, e5, e6, r1, r2, r3, r4, r5, r6, r7, r8, r9, r10, r11, r12, r13, r14, r15, r16, r17, hwk, hso, hrn, hnu, hpt, hrg, hbx, hor, hsa, hsb, hsc, hsn, hwz, hth, hla, hli, hlt, hpr, hby, htp, hrm, hhd, hlr, hK⟩ := hr
  simp only [f_G_order, f_M_order, e_within, e_among, e_Gu_has, e_isPa F x1 K b1 (by omega), j_bdS, j_letE, a1, f_Ki_append]
  refine wp2_ite Iff.rfl (fun q1 => wp2_mk rfl rfl (op_idle hs h0 rfl)) (fun q1 => ?_)
  obtain ⟨i, hi, rfl⟩ := nI_in1 (by omega) (b10n q1)
  refine wp2_ite Iff.rfl (fun q1 => wp2_mk rfl rfl (op_idle hs h0 rfl)) (fun q1 => ?_)
  have o : j_ok (nI i) 100 = true := j_ok_nI (by omega) (by decide)
  refine wp2_Lp o (wp2_Rp o ?_)
  rw [j_ix_nI (by omega), vw_at (lo := 43) (I := J) (show i < 100 by omega)]
  have p6 := (hpt i hi).2.2.2.2.2.1
  rcases (hrg i hi).2.2.2.1 with z | ⟨b, hb, z⟩
  · exact wp2_Lp z (wp2_Rn (by rw [← p6, z]; decide) (wp2_mk rfl rfl (op_idle hs h0 rfl)))
  refine wp2_Ln (by rw [z]; exact nI_nem (by omega)) (wp2_Rp (by rw [← p6, z]; exact nI_pos' (by omega)) ?_)
  by_cases hn : s 8 < 60
  · obtain ⟨o1, o2, i1, i2⟩ := ok2 (J := J) (K := K) a8 b8 hn (by decide)
    refine wp2_Lp (by rw [a8]; exact nI_lt hn (by decide)) (wp2_Rn (by rw [b8]; exact nI_ne (b := 60) (by omega) (by omega) (by decide)) ?_)
    refine wp2_mk (v := J 198 4 + 1) (J := j_wr (j_wr (j_wr (j_wr J 199 (j_ix (J 198 4)) (nI i)) 200 (j_ix (J 198 4)) x2) 201 (j_ix (J 198 4)) (0 &&& 1)) 198 4 (J 198 4 + 1)) (w := K 215 46 + 1) (K := j_wr (j_wr (j_wr (j_wr K 242 (j_ix (K 215 46)) (nI i)) 243 (j_ix (K 215 46)) x2) 244 (j_ix (K 215 46)) (0 &&& 1)) 215 46 (K 215 46 + 1)) ?_ ?_ (op_fin (s' := p_up s 8 (s 8 + 1)) hs rfl ?_ ?_ ?_ ⟨?_, ?_, h2⟩)
    · exact (bdp o1).trans ((bdp o1).trans (bdp o1))
    · exact (if_pos o2).trans ((if_pos o2).trans (if_pos o2))
    · rw [a8, b8]
    · exact frJ_wr (by decide) (frJ_wr (by decide) (frJ_wr (by decide) (frJ_wr (by decide) (frJ_rf _))))
    · exact frK_wr (by decide) (frK_wr (by decide) (frK_wr (by decide) (frK_wr (by decide) (frK_rf _))))
    · exact ⟨a0, b0, c0, a1, b1, c1, a2, b2, c2, a3, b3, c3, d3, a4, b4, c4, a5, b5, c5, a6, b6, c6, a7, b7, c7, (show J 198 4 + 1 = nI (s 8 + 1) by rw [a8, nI_1]), (show K 215 46 + 1 = nI (s 8 + 1) by rw [b8, nI_1]), (show s 8 + 1 ≤ 60 by omega), a9, b9, c9, a10, b10, c10, a11, b11, c11, a12, a15, c15, a14, b14, c14, e1, e2, e3, e4, e5, e6, r1, r2, r3, r4, r5, r6, (row_eq r7 (i1.trans i2.symm) rfl), (row_eq (J := j_wr J 199 (j_ix (J 198 4)) (nI i)) (K := j_wr K 242 (j_ix (K 215 46)) (nI i)) r8 (i1.trans i2.symm) rfl), (row_eq (J := j_wr (j_wr J 199 (j_ix (J 198 4)) (nI i)) 200 (j_ix (J 198 4)) x2) (K := j_wr (j_wr K 242 (j_ix (K 215 46)) (nI i)) 243 (j_ix (K 215 46)) x2) r9 (i1.trans i2.symm) rfl), r10, r11, r12, r13, r14, r15, r16, r17, (by (try simp (disch := decide) only [vw_wr, vw_rw, vw_jvo]); exact hwk), hso, hrn, (by (try simp (disch := decide) only [vw_wr, vw_rw, vw_jvo]); exact hnu), (by (try simp (disch := decide) only [vw_wr, vw_rw, vw_jvo]); exact hpt), (by (try simp (disch := decide) only [vw_wr, vw_rw, vw_jvo]); exact hrg), (by (try simp (disch := decide) only [vw_wr, vw_rw, vw_jvo]); exact hbx), (by
        intro k hk
        show ∃ t, t < s 1 ∧ j_wr J 199 (j_ix (J 198 4)) (nI i) 199 k = nI t
        have hk2 : k < s 8 + 1 := hk
        rw [i1]
        by_cases e : k = s 8
        · subst e; rw [j_wr_same]; exact ⟨i, hi, rfl⟩
        · rw [j_wr_idx _ _ _ e]; exact hor k (by omega)), (by (try simp (disch := decide) only [vw_wr, vw_rw, vw_jvo]); exact hsa), (by (try simp (disch := decide) only [vw_wr, vw_rw, vw_jvo]); exact hsb), (by (try simp (disch := decide) only [vw_wr, vw_rw, vw_jvo]); exact hsc), (by (try simp (disch := decide) only [vw_wr, vw_rw, vw_jvo]); exact hsn), hwz, hth, (by (try simp (disch := decide) only [vw_wr, vw_rw, vw_jvo]); exact hla), hli, hlt, hpr, hby, htp, hrm, (by (try simp (disch := decide) only [vw_wr, vw_rw, vw_jvo]); exact hhd), hlr, hK⟩
    · simp (disch := decide) only [vw_wr]; exact h1
  · have e16 : s 8 = 60 := by omega
    refine wp2_Ln (by rw [a8, e16]; decide) (wp2_Rp (by rw [b8, e16]; rfl) (wp2_mk rfl rfl (op_idle hs h0 rfl)))
