/-! price -/
theorem e_parse {F o : Nat} {K : j_M} : ∃ K1, m_rp K o 0 [] [] K1 ∧ f_M_parse F (nI o) K = j_it (m_lp F) F (nI o, 1, 0, K1) := by
  refine ⟨j_wr (j_wr (j_wr K 215 62 0) 215 60 0) 215 61 0, ⟨fun c k y1 y2 y3 => ?_, rfl, rfl, rfl, fun i w hi => by simp at hi, fun i q hi => by simp at hi⟩, rfl⟩
  rw [j_wr_at, if_neg (by omega), j_wr_at, if_neg (by omega), j_wr_at, if_neg (by omega)]
theorem rp_form {K0 K : j_M} {o p : Nat} {W : List Nat} {out : List (Nat × Int32)} (h : m_rp K0 o p W out K) : K = j_rw (j_rw (j_rw (j_wr (j_wr (j_wr K0 215 60 (K 215 60)) 215 61 (K 215 61)) 215 62 (K 215 62)) 252 (K 252)) 250 (K 250)) 251 (K 251) := by
  funext c k
  by_cases c1 : c = 251
  · subst c1; rw [rw_at]
  rw [rw_ne c1]
  by_cases c2 : c = 250
  · subst c2; rw [rw_at]
  rw [rw_ne c2]
  by_cases c3 : c = 252
  · subst c3; rw [rw_at]
  rw [rw_ne c3, j_wr_at, j_wr_at, j_wr_at]
  by_cases d1 : c = 215 ∧ k = 62
  · rw [if_pos d1, d1.1, d1.2]
  rw [if_neg d1]
  by_cases d2 : c = 215 ∧ k = 61
  · rw [if_pos d2, d2.1, d2.2]
  rw [if_neg d2]
  by_cases d3 : c = 215 ∧ k = 60
  · rw [if_pos d3, d3.1, d3.2]
  rw [if_neg d3]
  exact h.1 c k (by omega) c3 (by omega)
theorem p1_congr {F o : Nat} {j203 j204 k249 k250 k251 i203 i204 l249 l250 l251 : Nat → Int32} (h : R_p1 F o j203 j204 k249 k250 k251) (e1 : ∀ k, k < 120 → i203 (120 * o + k) = j203 (120 * o + k)) (e2 : i204 o = j204 o) (e3 : l249 o = k249 o) (e4 : ∀ k, k < 130 → l250 (130 * o + k) = k250 (130 * o + k)) (e5 : ∀ k, k < 130 → l251 (130 * o + k) = k251 (130 * o + k)) : R_p1 F o i203 i204 l249 l250 l251 := by
  intro J K h1 h2 h3 h4 h5 h6
  rw [e2]
  exact h J K (fun k hk => (h1 k hk).trans (e1 k hk)) (h2.trans e2) (h3.trans e3) (fun k hk => (h4 k hk).trans (e4 k hk)) (fun k hk => (h5 k hk).trans (e5 k hk)) h6
theorem nm_of {J K : j_M} (h : R_nm J K) : ∀ c, ixn c < 8 → K 253 c = J 209 (ixn c) := by
  intro c hc
  obtain ⟨h0, h1, h2, h3, h4, h5, h6, h7⟩ := h
  rcases nam_cases c with z | z
  · rcases z with rfl | rfl | rfl | rfl | rfl | rfl | rfl | rfl
    · exact h0.symm
    · exact h1.symm
    · exact h2.symm
    · exact h3.symm
    · exact h4.symm
    · exact h5.symm
    · exact h6.symm
    · exact h7.symm
  · omega
theorem p1_new {F o n : Nat} {b : Nat → Nat} {K K1 K2 : j_M} {j203 j204 k249 k250 k251 : Nat → Int32} (hF : 20000000 < F) (ho : o < 30) (tx : m_tx n b K) (hb : ∀ k, k < n → j203 (120 * o + k) &&& 255 = nI (b k)) (hK1 : m_rp K o 0 [] [] K1) (hrun : j_it (m_lp F) F (nI o, 1, 0, K1) = some (-1, K2)) (h204 : j204 o = nI n) (h249 : k249 o = K2 215 61) (h250 : ∀ k, k < 130 → k250 (130 * o + k) = K2 250 (130 * o + k)) (h251 : ∀ k, k < 130 → k251 (130 * o + k) = K2 251 (130 * o + k)) : R_p1 F o j203 j204 k249 k250 k251 := by
  intro J3 K3 h1 h2 h3 h4 h5 h6
  have h120 := tx.1
  have ct : c_tx n b (fun c => J3 209 (ixn c)) (120 * o) J3 := ⟨h120, tx.2.1, by omega, fun k hk => by rw [h1 k (by omega)]; exact hb k hk, fun c _ => rfl⟩
  obtain ⟨v, J', e, hq⟩ := t_sim (o := o) hF ct tx ho
  rw [h204]
  rcases hq with ⟨r, out, hl, hy, hgo⟩ | ⟨p', pos, r, hp, hen⟩
  · obtain ⟨K4, m4, e4⟩ := hgo F K1 (by omega) hK1
    rw [hrun] at e4
    have eK : K2 = K4 := congrArg Prod.snd (Option.some.inj e4)
    subst eK
    obtain ⟨g, hsay⟩ := l_says (F := F) (o := o) (nm := fun c => J3 209 (ixn c)) (K := K3) (L := out) (v := v) hF ho (by omega) (by rw [h3, h249]; exact m4.2.2.2.1) (fun i q hi => by
      have hil : i < out.length := (List.getElem?_eq_some_iff.mp hi).1
      rw [h4 i (by omega), h5 i (by omega), h250 i (by omega), h251 i (by omega)]
      exact m4.2.2.2.2.2 i q hi) (nm_of h6) hy
    obtain ⟨hh, rfl, -⟩ := r
    exact ⟨v, _, v, _, e, hsay, rfl, ⟨hh, rfl⟩, ⟨g, rfl⟩⟩
  · obtain ⟨p2, W2, o2, K4, m4, e4⟩ := hen F K1 (by omega) hK1
    rw [hrun] at e4
    have eK : (-1 : Int32) = nI pos := congrArg Prod.fst (Option.some.inj e4)
    exact absurd eK.symm (nI_nem (by omega))
theorem op_price (F : Nat) (hF : 20000000 < F) (x1 x2 : Int32) : OP F (f_G_price F x1 x2) (f_M_price F x1 x2) := by
  intro s J K hs h
  have h0 := h
  obtain ⟨hr, h1, h2⟩ := h
  obtain ⟨a0, b0, c0, a1, b1, c1, a2, b2, c2, a3, b3, c3, d3, a4, b4, c4, a5, b5, c5, a6, b6, c6, a7, b7, c7, a8, b8, c8, a9, b9, c9, a10, b10, c10, a11, b11, c11, a12, a15, c15, a14, b14, c14, e1, e2, e3, e4, e5, e6, r1, r2, r3, r4, r5, r6, r7, r8, r9, r10, r11, r12, r13, r14, r15, r16, r17, hwk, hso, hrn, hnu, hpt, hrg, hbx, hor, hsa, hsb, hsc, hsn, hwz, hth, hla, hli, hlt, hpr, hby, htp, hrm, hhd, hlr, hK⟩ := hr
  simp only [f_G_price, f_M_price, e_within, e_among, e_isNi, j_bdS, bd_id]
  refine wp2_ite Iff.rfl (fun q1 => wp2_mk rfl rfl (op_idle hs h0 rfl)) (fun q1 => ?_)
  refine wp2_ite Iff.rfl (fun q1 => wp2_mk rfl rfl (op_idle hs h0 rfl)) (fun q2 => ?_)
  by_cases hn : ¬ s 9 < 30
  · have e30 : s 9 = 30 := by omega
    exact wp2_Ln (by rw [a9, e30]; decide) (wp2_Rp (by rw [b9, e30]; rfl) (wp2_mk rfl rfl (op_idle hs h0 rfl)))
  have hn' : s 9 < 30 := by omega
  refine wp2_Lp (by rw [a9]; exact nI_lt (b := 30) hn' (by decide)) (wp2_Rn (by rw [b9]; exact nI_ne (b := 30) (by omega) (by omega) (by decide)) ?_)
  have hbe : ∀ k, ∃ c, c < 256 ∧ J 203 (120 * s 9 + k) &&& 255 = nI c ∧ J 203 (120 * s 9 + k) = t_b c := fun k => t_of (hby _)
  obtain ⟨b, hb⟩ := Classical.axiomOfChoice hbe
  have ct : c_tx (s 10) b (fun c => J 209 (ixn c)) (120 * s 9) J := ⟨c10, fun k => (hb k).1, by omega, fun k _ => (hb k).2.1, fun c _ => rfl⟩
  have tx : m_tx (s 10) b K := ⟨c10, fun k => (hb k).1, b10, fun k hk => by rw [← htp k hk]; exact (hb k).2.2⟩
  obtain ⟨v, J2, e, hq⟩ := t_sim (o := s 9) hF ct tx hn'
  obtain ⟨K1, hK1, eP⟩ := e_parse (F := F) (o := s 9) (K := K)
  have o9 : j_ok (nI (s 9)) 30 = true := j_ok_nI hn' (by decide)
  unfold f_Pr_make
  rw [a9, a10, a3, show nI (s 9) * 120 = nI (120 * s 9) by rw [show (120 : Int32) = nI 120 from rfl, pk_mul, Nat.mul_comm], e, j_bdS, b9, eP]
  have old : ∀ (g249 g250 g251 i204 : Nat → Int32), (∀ o, o < s 9 → i204 o = J 204 o ∧ g249 o = K 249 o) → (∀ k, k < 130 * s 9 → g250 k = K 250 k ∧ g251 k = K 251 k) → ∀ o, o < s 9 → R_p1 F o (J 203) i204 g249 g250 g251 := fun g249 g250 g251 i204 y1 y2 o ho => p1_congr (hpr o ho) (fun _ _ => rfl) (y1 o ho).1 (y1 o ho).2 (fun k hk => (y2 _ (by omega)).1) (fun k hk => (y2 _ (by omega)).2)
  rcases hq with ⟨r, out, hl, hy, hgo⟩ | ⟨p', pos, r, hp, hen⟩
  · obtain ⟨K2, m2, eR⟩ := hgo F K1 (by omega) hK1
    obtain ⟨hh, rfl, y1, -⟩ := r
    have hrun := eR
    rw [eR, j_bdS]
    have fr2 : ∀ k, k < 130 * s 9 → K2 250 k = K 250 k ∧ K2 251 k = K 251 k := fun k hk => ⟨m2.1 250 k (by omega) (by decide) (by omega), m2.1 251 k (by omega) (by decide) (by omega)⟩
    have f1 : K2 215 1 = nI (s 3) := by rw [m2.1 215 1 (by decide) (by decide) (by omega)]; exact b3
    have f52 : K2 215 52 = nI (s 9) := by rw [m2.1 215 52 (by decide) (by decide) (by omega)]; exact b9
    have fK := rp_form m2
    have p9 := p1_new (j203 := J 203) (j204 := j_wr J 204 (s 9) (nI (s 10)) 204) (k249 := j_wr K 249 (s 9) (K2 215 61) 249) (k250 := K2 250) (k251 := K2 251) hF hn' tx (fun k _ => (hb k).2.1) hK1 hrun (j_wr_same _ _ _ _) (j_wr_same _ _ _ _) (fun _ _ => rfl) (fun _ _ => rfl)
    have pall : R_pr F (s 9 + 1) (J 203) (j_wr J 204 (s 9) (nI (s 10)) 204) (j_wr K 249 (s 9) (K2 215 61) 249) (K2 250) (K2 251) := fun o ho => by
      by_cases eo : o = s 9
      · subst eo; exact p9
      · exact old _ _ _ _ (fun o ho => ⟨j_wr_idx _ _ _ (by omega), j_wr_idx _ _ _ (by omega)⟩) fr2 o (by omega)
    have u1 : (j_rw J 208 hh) 202 1 = nI (s 10) := a10
    have u2 : (j_wr (j_rw J 208 hh) 202 1 0) 208 1 = -1 := y1
    have u3 : (j_wr (j_rw J 208 hh) 202 1 0) 202 0 = nI (s 9) := a9
    have u4 : (j_wr K2 215 51 0) 215 52 = nI (s 9) := by rw [j_wr_idx _ _ _ (by decide)]; exact f52
    have u5 : (j_wr K2 215 51 0) 215 1 = nI (s 3) := by rw [j_wr_idx _ _ _ (by decide)]; exact f1
    have u6 : (j_wr K2 215 51 0) 215 61 = K2 215 61 := j_wr_idx _ _ _ (by decide)
    simp only [j_letE, u1, u2, if_true]
    refine wp2_Rp (show (-1 : Int32) < 0 by decide) ?_
    simp (disch := decide) only [j_wr_cell, u3, u4, u5, u6, o9, if_true, j_ix_nI (show s 9 < 2 ^ 31 by omega), nI_1, j_wr_same]
    rw [fK]
    generalize K2 215 60 = g60 at *
    generalize K2 215 61 = g61 at *
    generalize K2 215 62 = g62 at *
    generalize K2 252 = g252 at *
    generalize K2 250 = g250 at *
    generalize K2 251 = g251 at *
    refine wp2_mk rfl rfl (op_fin (s' := p_up (p_up s 9 (s 9 + 1)) 10 0) hs rfl rfl ?_ ?_ ⟨?_, ?_, h2⟩)
    · exact frJ_wr (by decide) (frJ_wr (by decide) (frJ_wr (by decide) (frJ_wr (by decide) (frJ_wr (by decide) (frJ_wr (by decide) (frJ_rw (by decide) (frJ_rf _)))))))
    · exact frK_wr (by decide) (frK_wr (by decide) (frK_wr (by decide) (frK_wr (by decide) (frK_wr (by decide) (frK_wr (by decide) (frK_rw (by decide) (frK_rw (by decide) (frK_rw (by decide) (frK_wr (by decide) (frK_wr (by decide) (frK_wr (by decide) (frK_rf _))))))))))))
    · exact ⟨a0, b0, c0, a1, b1, c1, a2, b2, c2, a3, b3, c3, d3, a4, b4, c4, a5, b5, c5, a6, b6, c6, a7, b7, c7, a8, b8, c8, rfl, rfl, (show s 9 + 1 ≤ 30 by omega), rfl, rfl, (Nat.zero_le _), a11, b11, c11, a12, a15, c15, a14, b14, c14, e1, e2, e3, e4, e5, e6, r1, r2, r3, r4, r5, r6, r7, r8, r9, (show j_wr J 205 (s 9) x1 205 = j_wr K 246 (s 9) x1 246 from row_eq r10 rfl rfl), (show j_wr J 206 (s 9) x2 206 = j_wr K 248 (s 9) x2 248 from row_eq r11 rfl rfl), (show j_wr J 207 (s 9) (nI (s 3)) 207 = j_wr K 247 (s 9) (nI (s 3)) 247 from row_eq r12 rfl rfl), r13, r14, r15, r16, r17, (by (try simp (disch := decide) only [vw_wr, vw_rw, vw_jvo]); exact hwk), hso, hrn, (by (try simp (disch := decide) only [vw_wr, vw_rw, vw_jvo]); exact hnu), (by (try simp (disch := decide) only [vw_wr, vw_rw, vw_jvo]); exact hpt), (by (try simp (disch := decide) only [vw_wr, vw_rw, vw_jvo]); exact hrg), (by (try simp (disch := decide) only [vw_wr, vw_rw, vw_jvo]); exact hbx), hor, (by (try simp (disch := decide) only [vw_wr, vw_rw, vw_jvo]); exact hsa), (by (try simp (disch := decide) only [vw_wr, vw_rw, vw_jvo]); exact hsb), (by (try simp (disch := decide) only [vw_wr, vw_rw, vw_jvo]); exact hsc), (by (try simp (disch := decide) only [vw_wr, vw_rw, vw_jvo]); exact hsn), hwz, hth, (by (try simp (disch := decide) only [vw_wr, vw_rw, vw_jvo]); exact hla), hli, hlt, pall, hby, (fun k hk => absurd hk (Nat.not_lt_zero _)), hrm, (by (try simp (disch := decide) only [vw_wr, vw_rw, vw_jvo]); exact hhd), hlr, hK⟩
    · simp (disch := decide) only [vw_wr, vw_rw]; exact h1
  · obtain ⟨p2, W2, o2, K2, m2, eR⟩ := hen F K1 (by omega) hK1
    obtain ⟨hh, rfl, y1, -⟩ := r
    rw [eR, j_bdS]
    have fr2 : ∀ k, k < 130 * s 9 → K2 250 k = K 250 k ∧ K2 251 k = K 251 k := fun k hk => ⟨m2.1 250 k (by omega) (by decide) (by omega), m2.1 251 k (by omega) (by decide) (by omega)⟩
    have fK := rp_form m2
    have pall : R_pr F (s 9) (J 203) (J 204) (K 249) (K2 250) (K2 251) := fun o ho => old _ _ _ _ (fun o ho => ⟨rfl, rfl⟩) fr2 o ho
    have u2 : (j_wr (j_rw J 208 hh) 202 1 0) 208 1 = nI pos := y1
    simp only [j_letE, u2]
    refine wp2_Ln (nI_nem (by omega)) (wp2_Rn (nI_pos (by omega)) ?_)
    rw [fK]
    generalize K2 215 60 = g60 at *
    generalize K2 215 61 = g61 at *
    generalize K2 215 62 = g62 at *
    generalize K2 252 = g252 at *
    generalize K2 250 = g250 at *
    generalize K2 251 = g251 at *
    refine wp2_mk rfl rfl (op_fin (s' := p_up s 10 0) hs rfl rfl ?_ ?_ ⟨?_, ?_, h2⟩)
    · exact frJ_wr (by decide) (frJ_rw (by decide) (frJ_rf _))
    · exact frK_wr (by decide) (frK_rw (by decide) (frK_rw (by decide) (frK_rw (by decide) (frK_wr (by decide) (frK_wr (by decide) (frK_wr (by decide) (frK_rf _)))))))
    · exact ⟨a0, b0, c0, a1, b1, c1, a2, b2, c2, a3, b3, c3, d3, a4, b4, c4, a5, b5, c5, a6, b6, c6, a7, b7, c7, a8, b8, c8, a9, b9, c9, rfl, rfl, (Nat.zero_le _), a11, b11, c11, a12, a15, c15, a14, b14, c14, e1, e2, e3, e4, e5, e6, r1, r2, r3, r4, r5, r6, r7, r8, r9, r10, r11, r12, r13, r14, r15, r16, r17, (by (try simp (disch := decide) only [vw_wr, vw_rw, vw_jvo]); exact hwk), hso, hrn, (by (try simp (disch := decide) only [vw_wr, vw_rw, vw_jvo]); exact hnu), (by (try simp (disch := decide) only [vw_wr, vw_rw, vw_jvo]); exact hpt), (by (try simp (disch := decide) only [vw_wr, vw_rw, vw_jvo]); exact hrg), (by (try simp (disch := decide) only [vw_wr, vw_rw, vw_jvo]); exact hbx), hor, (by (try simp (disch := decide) only [vw_wr, vw_rw, vw_jvo]); exact hsa), (by (try simp (disch := decide) only [vw_wr, vw_rw, vw_jvo]); exact hsb), (by (try simp (disch := decide) only [vw_wr, vw_rw, vw_jvo]); exact hsc), (by (try simp (disch := decide) only [vw_wr, vw_rw, vw_jvo]); exact hsn), hwz, hth, (by (try simp (disch := decide) only [vw_wr, vw_rw, vw_jvo]); exact hla), hli, hlt, pall, hby, (fun k hk => absurd hk (Nat.not_lt_zero _)), hrm, (by (try simp (disch := decide) only [vw_wr, vw_rw, vw_jvo]); exact hhd), hlr, hK⟩
    · simp (disch := decide) only [vw_wr, vw_rw]; exact h1
