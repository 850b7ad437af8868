/-! more calls without loops -/
theorem ok2 {J K : j_M} {x y : Int32} {n N : Nat} (a : x = nI n) (b : y = nI n) (h : n < N) (hN : N < 2 ^ 31) : j_ok x N = true ∧ j_ok y N = true ∧ j_ix x = n ∧ j_ix y = n := by
  subst a; subst b
  exact ⟨j_ok_nI h hN, j_ok_nI h hN, j_ix_nI (by omega), j_ix_nI (by omega)⟩
theorem bdp {α β : Type} {c : Prop} [Decidable c] {A B : Option (α × j_M)} {k : α → j_M → Option β} (h : c) : j_bd (if c then A else B) k = j_bd A k := by rw [if_pos h]
theorem b10n {p : Prop} [Decidable p] (h : ¬ ((if p then (1 : Int32) else 0) = 0)) : p := by
  by_cases z : p
  · exact z
  · rw [if_neg z] at h; exact absurd rfl h
theorem nI_ne {a b : Nat} (h : a ≠ b) (ha : a < 2 ^ 31) (hb : b < 2 ^ 31) : ¬ nI a = nI b := fun z => h ((nI_eq ha hb).mp z)
theorem op_box (F : Nat) (x1 x2 : Int32) : OP F (f_G_box F x1 x2) (f_M_box F x1 x2) := by
  intro s J K hs h
  have h0 := h
  obtain ⟨hr, h1, h2⟩ := h
  obtain ⟨a0, b0, c0, a1, b1, c1, a2, b2, c2, a3, b3, c3, d3, a4, b4, c4, a5, b5, c5, a6, b6, c6, a7, b7, c7, a8, b8, c8, a9, b9, c9, a10, b10, c10, a11, b11, c11, a12, a15, c15, a14, b14, c14, e1, e2, e3, e4, e5, e6, r1, r2, r3, r4, r5, r6, r7, r8, r9, r10, r11, r12, r13, r14, r15, r16, r17, hwk, hso, hrn, hnu, hpt, hrg, hbx, hor, hsa, hsb, hsc, hsn, hwz, hth, hla, hli, hlt, hpr, hby, htp, hrm, hhd, hlr, hK⟩ := hr
  simp only [f_G_box, f_M_box, e_within, e_among, e_Gr_has, e_isPl F x1 K b0 (by omega), j_bdS, j_letE, a0, f_Bo_add]
  refine wp2_ite Iff.rfl (fun q1 => wp2_mk rfl rfl (op_idle hs h0 rfl)) (fun q1 => ?_)
  refine wp2_ite Iff.rfl (fun q1 => wp2_mk rfl rfl (op_idle hs h0 rfl)) (fun q1 => ?_)
  by_cases hn : s 7 < 20
  · obtain ⟨o1, o2, i1, i2⟩ := ok2 (J := J) (K := K) a7 b7 hn (by decide)
    refine wp2_Lp (by rw [a7]; exact nI_lt hn (by decide)) (wp2_Rn (by rw [b7]; exact nI_ne (b := 20) (by omega) (by omega) (by decide)) ?_)
    refine wp2_mk (v := J 194 0 + 1 - 1) (J := j_wr (j_wr (j_wr (j_wr J 195 (j_ix (J 194 0)) x1) 196 (j_ix (J 194 0)) x2) 197 (j_ix (J 194 0)) (-1)) 194 0 (J 194 0 + 1)) (w := K 215 40 + 1 - 1) (K := j_wr (j_wr (j_wr K 240 (j_ix (K 215 40)) x1) 241 (j_ix (K 215 40)) x2) 215 40 (K 215 40 + 1)) ?_ ?_ (op_fin (s' := p_up s 7 (s 7 + 1)) hs rfl ?_ ?_ ?_ ⟨?_, ?_, h2⟩)
    · exact (bdp o1).trans ((bdp o1).trans (bdp o1))
    · rw [if_pos o2]
      exact if_pos o2
    · rw [a7, b7]
    · exact frJ_wr (by decide) (frJ_wr (by decide) (frJ_wr (by decide) (frJ_wr (by decide) (frJ_rf _))))
    · exact frK_wr (by decide) (frK_wr (by decide) (frK_wr (by decide) (frK_rf _)))
    · exact ⟨a0, b0, c0, a1, b1, c1, a2, b2, c2, a3, b3, c3, d3, a4, b4, c4, a5, b5, c5, a6, b6, c6, (show J 194 0 + 1 = nI (s 7 + 1) by rw [a7, nI_1]), (show K 215 40 + 1 = nI (s 7 + 1) by rw [b7, nI_1]), (show s 7 + 1 ≤ 20 by omega), a8, b8, c8, a9, b9, c9, a10, b10, c10, a11, b11, c11, a12, a15, c15, a14, b14, c14, e1, e2, e3, e4, e5, e6, r1, r2, r3, r4, (row_eq r5 (i1.trans i2.symm) rfl), (row_eq (J := j_wr J 195 (j_ix (J 194 0)) x1) (K := j_wr K 240 (j_ix (K 215 40)) x1) r6 (i1.trans i2.symm) rfl), r7, r8, r9, r10, r11, r12, r13, r14, r15, r16, r17, (by (try simp (disch := decide) only [vw_wr, vw_rw, vw_jvo]); exact hwk), hso, hrn, (by (try simp (disch := decide) only [vw_wr, vw_rw, vw_jvo]); exact hnu), (by (try simp (disch := decide) only [vw_wr, vw_rw, vw_jvo]); exact hpt), (by simp (disch := decide) only [vw_wr]; exact fun i hi => ⟨(hrg i hi).1, (hrg i hi).2.1, (hrg i hi).2.2.1, (by rcases (hrg i hi).2.2.2.1 with z | ⟨b, z, z2⟩; exact Or.inl z; exact Or.inr ⟨b, Nat.lt_succ_of_lt z, z2⟩), (hrg i hi).2.2.2.2⟩), (by
        simp (disch := decide) only [vw_wr]
        intro b hb
        show (j_wr (j_wr (j_wr J 195 (j_ix (J 194 0)) x1) 196 (j_ix (J 194 0)) x2) 197 (j_ix (J 194 0)) (-1) 197 b = -1 ∧ _) ∨ ∃ i, _ ∧ j_wr (j_wr (j_wr J 195 (j_ix (J 194 0)) x1) 196 (j_ix (J 194 0)) x2) 197 (j_ix (J 194 0)) (-1) 197 b = nI i ∧ _
        have hb2 : b < s 7 + 1 := hb
        by_cases e : b = s 7
        · subst e
          rw [i1, j_wr_same]
          refine Or.inl ⟨rfl, fun i hi z => ?_⟩
          rcases (hrg i hi).2.2.2.1 with y | ⟨b, y, y2⟩
          · rw [y] at z; have := congrArg Int32.toInt z; rw [nI_toInt (by omega)] at this; have e1 : (-1 : Int32).toInt = -1 := by decide
            rw [e1] at this; omega
          · rw [y2] at z; exact absurd ((nI_eq (by omega) (by omega)).mp z) (by omega)
        · rw [j_wr_idx _ _ _ (show b ≠ j_ix (J 194 0) by omega)]
          exact hbx b (by omega)), hor, (by (try simp (disch := decide) only [vw_wr, vw_rw, vw_jvo]); exact hsa), (by (try simp (disch := decide) only [vw_wr, vw_rw, vw_jvo]); exact hsb), (by (try simp (disch := decide) only [vw_wr, vw_rw, vw_jvo]); exact hsc), (by (try simp (disch := decide) only [vw_wr, vw_rw, vw_jvo]); exact hsn), hwz, hth, (by (try simp (disch := decide) only [vw_wr, vw_rw, vw_jvo]); exact hla), hli, hlt, hpr, hby, htp, hrm, (by (try simp (disch := decide) only [vw_wr, vw_rw, vw_jvo]); exact hhd), hlr, hK⟩
    · simp (disch := decide) only [vw_wr]; exact h1
  · have e16 : s 7 = 20 := by omega
    refine wp2_Ln (by rw [a7, e16]; decide) (wp2_Rp (by rw [b7, e16]; rfl) (wp2_mk rfl rfl (op_idle hs h0 rfl)))
theorem op_lamp (F : Nat) (x1 : Int32) : OP F (f_G_lamp F x1) (f_M_lamp F x1) := by
  intro s J K hs h
  have h0 := h
  obtain ⟨hr, h1, h2⟩ := h
  obtain ⟨a0, b0, c0, a1, b1, c1, a2, b2, c2, a3, b3, c3, d3, a4, b4, c4, a5, b5, c5, a6, b6, c6, a7, b7, c7, a8, b8, c8, a9, b9, c9, a10, b10, c10, a11, b11, c11, a12, a15, c15, a14, b14, c14, e1, e2, e3, e4, e5, e6, r1, r2, r3, r4, r5, r6, r7, r8, r9, r10, r11, r12, r13, r14, r15, r16, r17, hwk, hso, hrn, hnu, hpt, hrg, hbx, hor, hsa, hsb, hsc, hsn, hwz, hth, hla, hli, hlt, hpr, hby, htp, hrm, hhd, hlr, hK⟩ := hr
  simp only [f_G_lamp, f_M_lamp, e_within, e_among, j_bdS, j_letE, f_La_hang]
  refine wp2_ite Iff.rfl (fun q1 => wp2_mk rfl rfl (op_idle hs h0 rfl)) (fun q1 => ?_)
  by_cases hn : s 5 < 40
  · obtain ⟨o1, o2, i1, i2⟩ := ok2 (J := J) (K := K) a5 b5 hn (by decide)
    refine wp2_Lp (by rw [a5]; exact nI_lt hn (by decide)) (wp2_Rn (by rw [b5]; exact nI_ne (b := 40) (by omega) (by omega) (by decide)) ?_)
    refine wp2_mk (v := J 150 0 + 1 - 1) (J := j_wr (j_wr (j_wr J 151 (j_ix (J 150 0)) x1) 152 (j_ix (J 150 0)) (-1)) 150 0 (J 150 0 + 1)) (w := K 215 28 + 1 - 1) (K := j_wr (j_wr (j_wr K 234 (j_ix (K 215 28)) x1) 239 (j_ix (K 215 28)) 1000000) 215 28 (K 215 28 + 1)) ?_ ?_ (op_fin (s' := p_up s 5 (s 5 + 1)) hs rfl ?_ ?_ ?_ ⟨?_, ?_, h2⟩)
    · exact (bdp o1).trans (bdp o1)
    · rw [if_pos o2]
      exact if_pos o2
    · rw [a5, b5]
    · exact frJ_wr (by decide) (frJ_wr (by decide) (frJ_wr (by decide) (frJ_rf _)))
    · exact frK_wr (by decide) (frK_wr (by decide) (frK_wr (by decide) (frK_rf _)))
    · exact ⟨a0, b0, c0, a1, b1, c1, a2, b2, c2, a3, b3, c3, d3, a4, b4, c4, (show J 150 0 + 1 = nI (s 5 + 1) by rw [a5, nI_1]), (show K 215 28 + 1 = nI (s 5 + 1) by rw [b5, nI_1]), (show s 5 + 1 ≤ 40 by omega), a6, b6, c6, a7, b7, c7, a8, b8, c8, a9, b9, c9, a10, b10, c10, a11, b11, c11, a12, a15, c15, a14, b14, c14, e1, e2, e3, e4, e5, e6, r1, r2, r3, (row_eq r4 (i1.trans i2.symm) rfl), r5, r6, r7, r8, r9, r10, r11, r12, r13, r14, r15, r16, r17, (by (try simp (disch := decide) only [vw_wr, vw_rw, vw_jvo]); exact hwk), hso, hrn, (by (try simp (disch := decide) only [vw_wr, vw_rw, vw_jvo]); exact hnu), (by (try simp (disch := decide) only [vw_wr, vw_rw, vw_jvo]); exact hpt), (by (try simp (disch := decide) only [vw_wr, vw_rw, vw_jvo]); exact hrg), (by (try simp (disch := decide) only [vw_wr, vw_rw, vw_jvo]); exact hbx), hor, (by (try simp (disch := decide) only [vw_wr, vw_rw, vw_jvo]); exact hsa), (by (try simp (disch := decide) only [vw_wr, vw_rw, vw_jvo]); exact hsb), (by (try simp (disch := decide) only [vw_wr, vw_rw, vw_jvo]); exact hsc), (by (try simp (disch := decide) only [vw_wr, vw_rw, vw_jvo]); exact hsn), hwz, hth, (by
        simp (disch := decide) only [vw_wr]
        obtain ⟨A, B, L, E, y1, y2⟩ := hla
        exact ⟨A, B, L, E, fun k hk => ⟨Nat.lt_succ_of_lt (y1 k hk).1, Nat.lt_succ_of_lt (y1 k hk).2.1, (y1 k hk).2.2⟩, y2⟩), (by
        intro l hl
        show (j_wr (j_wr J 151 (j_ix (J 150 0)) x1) 152 (j_ix (J 150 0)) (-1) 152 l = -1 ∧ j_wr (j_wr K 234 (j_ix (K 215 28)) x1) 239 (j_ix (K 215 28)) 1000000 239 l = 1000000) ∨ ∃ d, d < 100000 ∧ j_wr (j_wr K 234 (j_ix (K 215 28)) x1) 239 (j_ix (K 215 28)) 1000000 239 l = nI d ∧ j_wr (j_wr J 151 (j_ix (J 150 0)) x1) 152 (j_ix (J 150 0)) (-1) 152 l = nI ((d + 9) / 10)
        have hl2 : l < s 5 + 1 := hl
        rw [i1, i2]
        by_cases e : l = s 5
        · subst e
          exact Or.inl ⟨j_wr_same _ _ _ _, j_wr_same _ _ _ _⟩
        · rw [j_wr_idx _ _ _ e, j_wr_idx _ _ _ e]
          exact hli l (by omega)), hlt, hpr, hby, htp, hrm, (by (try simp (disch := decide) only [vw_wr, vw_rw, vw_jvo]); exact hhd), hlr, hK⟩
    · simp (disch := decide) only [vw_wr]; exact h1
  · have e16 : s 5 = 40 := by omega
    refine wp2_Ln (by rw [a5, e16]; decide) (wp2_Rp (by rw [b5, e16]; rfl) (wp2_mk rfl rfl (op_idle hs h0 rfl)))
theorem op_stolen (F : Nat) (x1 x2 : Int32) : OP F (f_G_stolen F x1 x2) (f_M_stolen F x1 x2) := by
  intro s J K hs h
  have h0 := h
  obtain ⟨hr, h1, h2⟩ := h
  obtain ⟨a0, b0, c0, a1, b1, c1, a2, b2, c2, a3, b3, c3, d3, a4, b4, c4, a5, b5, c5, a6, b6, c6, a7, b7, c7, a8, b8, c8, a9, b9, c9, a10, b10, c10, a11, b11, c11, a12, a15, c15, a14, b14, c14, e1, e2, e3, e4, e5, e6, r1, r2, r3, r4, r5, r6, r7, r8, r9, r10, r11, r12, r13, r14, r15, r16, r17, hwk, hso, hrn, hnu, hpt, hrg, hbx, hor, hsa, hsb, hsc, hsn, hwz, hth, hla, hli, hlt, hpr, hby, htp, hrm, hhd, hlr, hK⟩ := hr
  simp only [f_G_stolen, f_M_stolen, e_within, e_among, e_Gr_has, e_isPl F x2 K b0 (by omega), j_bdS, j_letE, a0, a2, b2, f_Wa_tell]
  refine wp2_ite Iff.rfl (fun q1 => wp2_mk rfl rfl (op_idle hs h0 rfl)) (fun q1 => ?_)
  refine wp2_ite Iff.rfl (fun q1 => wp2_mk rfl rfl (op_idle hs h0 rfl)) (fun q2 => ?_)
  by_cases hn : s 11 < 20
  · obtain ⟨o1, o2, i1, i2⟩ := ok2 (J := J) (K := K) a11 b11 hn (by decide)
    obtain ⟨m, hm, em⟩ := nI_in2 (s 2) rfl (by omega) (b10n q1)
    obtain ⟨q, hq, eq⟩ := nI_in1 (by omega) (b10n q2)
    refine wp2_Lp (by rw [a11]; exact nI_lt hn (by decide)) (wp2_Rn (by rw [b11]; exact nI_ne (b := 20) (by omega) (by omega) (by decide)) ?_)
    refine wp2_mk (v := J 143 6 + 1) (J := j_wr (j_wr (j_wr J 148 (j_ix (J 143 6)) x1) 149 (j_ix (J 143 6)) x2) 143 6 (J 143 6 + 1)) (w := K 215 68 + 1) (K := j_wr (j_wr (j_wr K 258 (j_ix (K 215 68)) x1) 259 (j_ix (K 215 68)) x2) 215 68 (K 215 68 + 1)) ?_ ?_ (op_fin (s' := p_up s 11 (s 11 + 1)) hs rfl ?_ ?_ ?_ ⟨?_, ?_, h2⟩)
    · exact (bdp o1).trans (bdp o1)
    · rw [if_pos o2]
      exact if_pos o2
    · rw [a11, b11]
    · exact frJ_wr (by decide) (frJ_wr (by decide) (frJ_wr (by decide) (frJ_rf _)))
    · exact frK_wr (by decide) (frK_wr (by decide) (frK_wr (by decide) (frK_rf _)))
    · exact ⟨a0, b0, c0, a1, b1, c1, a2, b2, c2, a3, b3, c3, d3, a4, b4, c4, a5, b5, c5, a6, b6, c6, a7, b7, c7, a8, b8, c8, a9, b9, c9, a10, b10, c10, (show J 143 6 + 1 = nI (s 11 + 1) by rw [a11, nI_1]), (show K 215 68 + 1 = nI (s 11 + 1) by rw [b11, nI_1]), (show s 11 + 1 ≤ 20 by omega), a12, a15, c15, a14, b14, c14, e1, e2, e3, e4, e5, e6, r1, r2, r3, r4, r5, r6, r7, r8, r9, r10, r11, r12, r13, r14, r15, (row_eq r16 (i1.trans i2.symm) rfl), (row_eq (J := j_wr J 148 (j_ix (J 143 6)) x1) (K := j_wr K 258 (j_ix (K 215 68)) x1) r17 (i1.trans i2.symm) rfl), (by (try simp (disch := decide) only [vw_wr, vw_rw, vw_jvo]); exact hwk), hso, hrn, (by (try simp (disch := decide) only [vw_wr, vw_rw, vw_jvo]); exact hnu), (by (try simp (disch := decide) only [vw_wr, vw_rw, vw_jvo]); exact hpt), (by (try simp (disch := decide) only [vw_wr, vw_rw, vw_jvo]); exact hrg), (by (try simp (disch := decide) only [vw_wr, vw_rw, vw_jvo]); exact hbx), hor, (by (try simp (disch := decide) only [vw_wr, vw_rw, vw_jvo]); exact hsa), (by (try simp (disch := decide) only [vw_wr, vw_rw, vw_jvo]); exact hsb), (by (try simp (disch := decide) only [vw_wr, vw_rw, vw_jvo]); exact hsc), (by (try simp (disch := decide) only [vw_wr, vw_rw, vw_jvo]); exact hsn), hwz, (by
        intro k hk
        show ∃ m q, m ≤ s 2 ∧ j_wr J 148 (j_ix (J 143 6)) x1 148 k = nI m ∧ q < s 0 ∧ j_wr (j_wr J 148 (j_ix (J 143 6)) x1) 149 (j_ix (J 143 6)) x2 149 k = nI q
        have hk2 : k < s 11 + 1 := hk
        rw [i1]
        by_cases e : k = s 11
        · subst e
          rw [j_wr_same, j_wr_same]
          exact ⟨m, q, hm, em, hq, eq⟩
        · rw [j_wr_idx _ _ _ e, j_wr_idx _ _ _ e]
          exact hth k (by omega)), (by (try simp (disch := decide) only [vw_wr, vw_rw, vw_jvo]); exact hla), hli, hlt, hpr, hby, htp, hrm, (by (try simp (disch := decide) only [vw_wr, vw_rw, vw_jvo]); exact hhd), hlr, hK⟩
    · simp (disch := decide) only [vw_wr]; exact h1
  · have e16 : s 11 = 20 := by omega
    refine wp2_Ln (by rw [a11, e16]; decide) (wp2_Rp (by rw [b11, e16]; rfl) (wp2_mk rfl rfl (op_idle hs h0 rfl)))
theorem op_night (F : Nat) (x1 x2 : Int32) : OP F (f_G_night F x1 x2) (f_M_night F x1 x2) := by
  intro s J K hs h
  have h0 := h
  obtain ⟨hr, h1, h2⟩ := h
  obtain ⟨a0, b0, c0, a1, b1, c1, a2, b2, c2, a3, b3, c3, d3, a4, b4, c4, a5, b5, c5, a6, b6, c6, a7, b7, c7, a8, b8, c8, a9, b9, c9, a10, b10, c10, a11, b11, c11, a12, a15, c15, a14, b14, c14, e1, e2, e3, e4, e5, e6, r1, r2, r3, r4, r5, r6, r7, r8, r9, r10, r11, r12, r13, r14, r15, r16, r17, hwk, hso, hrn, hnu, hpt, hrg, hbx, hor, hsa, hsb, hsc, hsn, hwz, hth, hla, hli, hlt, hpr, hby, htp, hrm, hhd, hlr, hK⟩ := hr
  simp only [f_G_night, f_M_night, e_within, e_among, j_bdS, j_letE, d3, b3, nI_pm (n := s 3) (by omega)]
  refine wp2_ite Iff.rfl (fun q1 => wp2_mk rfl rfl (op_idle hs h0 rfl)) (fun q1 => ?_)
  obtain ⟨i, hi, rfl⟩ := nI_in1 (by omega) (b10n q1)
  have o1 : j_ok (nI i) 200 = true := j_ok_nI (by omega) (by decide)
  refine wp2_ite Iff.rfl (fun q1 => wp2_Lp o1 (wp2_Rp o1 (wp2_mk rfl rfl (op_idle hs h0 (by rw [r13]))))) (fun q1 => ?_)
  refine wp2_ite Iff.rfl (fun q1 => wp2_Lp o1 (wp2_Rp o1 (wp2_mk rfl rfl (op_idle hs h0 (by rw [r14]))))) (fun q1 => ?_)
  refine wp2_ite Iff.rfl (fun q1 => wp2_Lp o1 (wp2_Rp o1 (wp2_mk rfl rfl (op_idle hs h0 (by rw [r15]))))) (fun q1 => wp2_mk rfl rfl (op_idle hs h0 rfl))
theorem op_party (F : Nat) (x1 x2 : Int32) : OP F (f_G_party F x1 x2) (f_M_party F x1 x2) := by
  intro s J K hs h
  have h0 := h
  obtain ⟨hr, h1, h2⟩ := h
  obtain ⟨a0, b0, c0, a1, b1, c1, a2, b2, c2, a3, b3, c3, d3, a4, b4, c4, a5, b5, c5, a6, b6, c6, a7, b7, c7, a8, b8, c8, a9, b9, c9, a10, b10, c10, a11, b11, c11, a12, a15, c15, a14, b14, c14, e1, e2, e3, e4, e5, e6, r1, r2, r3, r4, r5, r6, r7, r8, r9, r10, r11, r12, r13, r14, r15, r16, r17, hwk, hso, hrn, hnu, hpt, hrg, hbx, hor, hsa, hsb, hsc, hsn, hwz, hth, hla, hli, hlt, hpr, hby, htp, hrm, hhd, hlr, hK⟩ := hr
  simp only [f_G_party, f_M_party, e_Gu_has, e_isPa F x1 K b1 (by omega), j_bdS, j_letE, a1, f_Pa_tell]
  refine wp2_ite Iff.rfl (fun q1 => wp2_mk rfl rfl (op_idle hs h0 rfl)) (fun q1 => ?_)
  obtain ⟨i, hi, rfl⟩ := nI_in1 (by omega) (b10n q1)
  have o1 : j_ok (nI i) 100 = true := j_ok_nI (by omega) (by decide)
  obtain ⟨p1, p2, p3, p4, p5, p6, p7, p8, p9, p10⟩ := hpt i hi
  rw [j_ix_nI (by omega)]
  refine wp2_Lp o1 ?_
  simp only [vw_at (show i < 100 by omega), p1, p2, p3, p4, p5, p6, p7, p8, p9, p10]
  by_cases z0 : x2 = 0
  · rw [if_pos z0, j_bdS]; exact wp2_Rp z0 (wp2_Rp o1 (wp2_mk rfl rfl (op_idle hs h0 rfl)))
  rw [if_neg z0]
  refine wp2_Rn z0 ?_
  by_cases z1 : x2 = 1
  · rw [if_pos z1, j_bdS]; exact wp2_Rp z1 (wp2_Rp o1 (wp2_mk rfl rfl (op_idle hs h0 rfl)))
  rw [if_neg z1]
  refine wp2_Rn z1 ?_
  by_cases z2 : x2 = 2
  · rw [if_pos z2, j_bdS]; exact wp2_Rp z2 (wp2_Rp o1 (wp2_mk rfl rfl (op_idle hs h0 rfl)))
  rw [if_neg z2]
  refine wp2_Rn z2 ?_
  by_cases z3 : x2 = 3
  · rw [if_pos z3, j_bdS]; exact wp2_Rp z3 (wp2_Rp o1 (wp2_mk rfl rfl (op_idle hs h0 rfl)))
  rw [if_neg z3]
  refine wp2_Rn z3 ?_
  by_cases z4 : x2 = 4
  · rw [if_pos z4, j_bdS]; exact wp2_Rp z4 (wp2_Rp o1 (wp2_mk rfl rfl (op_idle hs h0 rfl)))
  rw [if_neg z4]
  refine wp2_Rn z4 ?_
  by_cases z5 : x2 = 5
  · rw [if_pos z5, j_bdS]; exact wp2_Rp z5 (wp2_Rp o1 (wp2_mk rfl rfl (op_idle hs h0 rfl)))
  rw [if_neg z5]
  refine wp2_Rn z5 ?_
  by_cases z6 : x2 = 6
  · rw [if_pos z6, j_bdS]; exact wp2_Rp z6 (wp2_Rp o1 (wp2_mk rfl rfl (op_idle hs h0 rfl)))
  rw [if_neg z6]
  refine wp2_Rn z6 ?_
  by_cases z7 : x2 = 7
  · rw [if_pos z7, j_bdS]; exact wp2_Rp z7 (wp2_Rp o1 (wp2_mk rfl rfl (op_idle hs h0 rfl)))
  rw [if_neg z7]
  refine wp2_Rn z7 ?_
  by_cases z8 : x2 = 8
  · rw [if_pos z8, j_bdS]; exact wp2_Rp z8 (wp2_Rp o1 (wp2_mk rfl rfl (op_idle hs h0 rfl)))
  rw [if_neg z8]
  refine wp2_Rn z8 ?_
  by_cases z9 : x2 = 9
  · rw [if_pos z9, j_bdS]; exact wp2_Rp z9 (wp2_Rp o1 (wp2_mk rfl rfl (op_idle hs h0 rfl)))
  rw [if_neg z9]
  refine wp2_Rn z9 ?_
  exact wp2_mk rfl rfl (op_idle hs h0 rfl)
