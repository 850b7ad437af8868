/-! setting off and going out -/
theorem rr_dep {F : Nat} {s : Nat → Nat} {J K : j_M} {i K2 : Nat} {c x y : Int32} {u : Nat → Int32} (hr : RR F s J K) (hi : i < s 1) (hK2 : s 13 ≤ K2 ∧ K2 ≤ 512) (hc : (c = 1 ∧ ∃ q, q < s 0 ∧ x = nI q) ∨ (c = 2 ∧ vw 43 100 J i 6 = -1)) (hphi : (if c = 2 then 0 else (if c = 1 then 1 else 0) + (if J 3 (j_ix x) = 0 then 1 else 0)) ≤ p_phi (vw 43 100 J) (J 3) i + 2 * (K2 - s 13)) (hsa' : R_sa (s 1) (s 12) (s 15) (vw 43 100 J) (J 144) (J 145) (J 146) u (K 233)) (hsb' : R_sb (s 1) (s 12) (s 15) (vup (vup (vup (vw 43 100 J) i 3 c) i 4 x) i 5 y) (J 144) (J 146) u) (hsc' : R_sc (s 1) (s 12) (vup (vup (vup (vw 43 100 J) i 3 c) i 4 x) i 5 y) (J 144) (J 145) u) : RR F (p_up s 13 K2) (jvw (j_rw J 147 u) 43 100 (vup (vup (vup (vw 43 100 J) i 3 c) i 4 x) i 5 y)) (j_wr (j_wr (j_wr K 225 i c) 226 i x) 227 i y) := by
  obtain ⟨a0, b0, c0, a1, b1, c1, a2, b2, c2, a3, b3, c3, d3, a4, b4, c4, a5, b5, c5, a6, b6, c6, a7, b7, c7, a8, b8, c8, a9, b9, c9, a10, b10, c10, a11, b11, c11, a12, a15, c15, a14, b14, c14, e1, e2, e3, e4, e5, e6, r1, r2, r3, r4, r5, r6, r7, r8, r9, r10, r11, r12, r13, r14, r15, r16, r17, hwk, hso, hrn, hnu, hpt, hrg, hbx, hor, hsa, hsb, hsc, hsn, hwz, hth, hla, hli, hlt, hpr, hby, htp, hrm, hhd, hlr, hK⟩ := hr
  have i100 : i < 100 := by omega
  have hv0 : v0 100 (vup (vup (vup (vw 43 100 J) i 3 c) i 4 x) i 5 y) := v0_up (v0_up (v0_up (v0_vw _ _ _) i100) i100) i100
  have hoth : ∀ p f, p ≠ i → vup (vup (vup (vw 43 100 J) i 3 c) i 4 x) i 5 y p f = vw 43 100 J p f := fun p f e => by
    rw [vup_ne _ _ _ _ e, vup_ne _ _ _ _ e, vup_ne _ _ _ _ e]
  have u3 : vup (vup (vup (vw 43 100 J) i 3 c) i 4 x) i 5 y i 3 = c := vup_at (vw 43 100 J) _ _ _
  have u4 : vup (vup (vup (vw 43 100 J) i 3 c) i 4 x) i 5 y i 4 = x := vup_at (vup (vw 43 100 J) i 3 c) _ _ _
  exact ⟨a0, b0, c0, a1, b1, c1, a2, b2, c2, a3, b3, c3, d3, a4, b4, c4, a5, b5, c5, a6, b6, c6, a7, b7, c7, a8, b8, c8, a9, b9, c9, a10, b10, c10, a11, b11, c11, a12, a15, c15, a14, b14, c14, e1, e2, e3, e4, e5, e6, r1, r2, r3, r4, r5, r6, r7, r8, r9, r10, r11, r12, r13, r14, r15, r16, r17, (by (try simp (disch := decide) only [vw_wr, vw_rw, vw_jvo]); exact hwk), hso, hrn, (by (try simp (disch := decide) only [vw_wr, vw_rw]); rw [vw_jvw (by assumption)]; exact hnu), (by (try simp (disch := decide) only [vw_wr, vw_rw]); rw [vw_jvw (by assumption)]; exact (l_pt5 (l_pt4 (l_pt3 hpt (j_wr_same _ _ _ _) (fun j e => j_wr_idx _ _ _ e)) (j_wr_same _ _ _ _) (fun j e => j_wr_idx _ _ _ e)) (j_wr_same _ _ _ _) (fun j e => j_wr_idx _ _ _ e))), (by (try simp (disch := decide) only [vw_wr, vw_rw]); rw [vw_jvw (by assumption)]; exact (fun j hj => (by
      obtain ⟨w1, w2, w3, w4, w5⟩ := hrg j hj
      by_cases e : j = i
      · subst e
        refine ⟨w1, ?_, fun z => ?_, w4, fun z => ?_⟩
        · rw [u3]; rcases hc with ⟨rfl, _⟩ | ⟨rfl, _⟩
          · exact Or.inr (Or.inl rfl)
          · exact Or.inr (Or.inr rfl)
        · rw [u3] at z
          rw [u4]
          rcases hc with ⟨_, q⟩ | ⟨q, _⟩
          · exact q
          · exact absurd q z
        · rw [u3] at z
          rcases hc with ⟨q, _⟩ | ⟨_, q⟩
          · rw [q] at z; exact absurd z (by decide)
          · exact q
      · have z3 := hoth j 3 e
        have z4 := hoth j 4 e
        refine ⟨w1, ?_, ?_, w4, ?_⟩
        · rw [z3]; exact w2
        · rw [z3, z4]; exact w3
        · rw [z3]; exact w5))), (by (try simp (disch := decide) only [vw_wr, vw_rw]); rw [vw_jvw (by assumption)]; exact hbx), hor, (by (try simp (disch := decide) only [vw_wr, vw_rw]); rw [vw_jvw (by assumption)]; exact hsa'), (by (try simp (disch := decide) only [vw_wr, vw_rw]); rw [vw_jvw (by assumption)]; exact hsb'), (by (try simp (disch := decide) only [vw_wr, vw_rw]); rw [vw_jvw (by assumption)]; exact hsc'), (by (try simp (disch := decide) only [vw_wr, vw_rw]); rw [vw_jvw (by assumption)]; exact (by
      show s 12 + p_sum (p_phi (vup (vup (vup (vw 43 100 J) i 3 c) i 4 x) i 5 y) (J 3)) (s 1) ≤ 2 * K2
      have q := sn_up (f := p_phi (vw 43 100 J) (J 3)) (g := p_phi (vup (vup (vup (vw 43 100 J) i 3 c) i 4 x) i 5 y) (J 3)) (np := s 1) (i := i) (fun p hp e => (by unfold p_phi; rw [hoth p 3 e, hoth p 4 e])) hi
      have q2 : p_phi (vup (vup (vup (vw 43 100 J) i 3 c) i 4 x) i 5 y) (J 3) i = (if c = 2 then 0 else (if c = 1 then 1 else 0) + (if J 3 (j_ix x) = 0 then 1 else 0)) := by
        unfold p_phi; rw [u3, u4]
      unfold R_sn at hsn
      omega)), hwz, hth, (by (try simp (disch := decide) only [vw_wr, vw_rw, vw_jvo]); exact hla), hli, hlt, hpr, hby, htp, hrm, (by (try simp (disch := decide) only [vw_wr, vw_rw]); rw [vw_jvw (by assumption)]; exact hhd), hlr, hK2.2⟩
theorem e_end {F t ns : Nat} {J : j_M} (h : J 143 1 = nI ns) (ht : t < ns) (hns : ns ≤ 1040) : f_Wa_endStay F (nI t) J = some (0, j_rw J 147 (upd (J 147) t (J 143 0))) := by
  unfold f_Wa_endStay
  rw [if_neg (nI_pos (by omega)), h, if_neg (nI_ge ht (by omega)), if_pos (j_ok_nI (by omega) (by decide)), j_ix_nI (by omega), ← wr_rw]
  rfl
/-- a party that is at a place leaves it -/
theorem pr_end {F : Nat} {s : Nat → Nat} {J K : j_M} {i K2 : Nat} {c x y : Int32} (hr : RR F s J K) (hi : i < s 1) (h3 : vw 43 100 J i 3 = 0) (hK2 : s 13 ≤ K2 ∧ K2 ≤ 512) (hc : (c = 1 ∧ ∃ q, q < s 0 ∧ x = nI q) ∨ (c = 2 ∧ vw 43 100 J i 6 = -1)) (hphi : (if c = 2 then 0 else (if c = 1 then 1 else 0) + (if J 3 (j_ix x) = 0 then 1 else 0)) ≤ p_phi (vw 43 100 J) (J 3) i + 2 * (K2 - s 13)) : ∃ u, f_Wa_endStay F (J (43 + i) 11) J = some (0, j_rw J 147 u) ∧ RR F (p_up s 13 K2) (jvw (j_rw J 147 u) 43 100 (vup (vup (vup (vw 43 100 J) i 3 c) i 4 x) i 5 y)) (j_wr (j_wr (j_wr K 225 i c) 226 i x) 227 i y) := by
  have hr0 := hr
  have hns := R_ns hr
  obtain ⟨a0, b0, c0, a1, b1, c1, a2, b2, c2, a3, b3, c3, d3, a4, b4, c4, a5, b5, c5, a6, b6, c6, a7, b7, c7, a8, b8, c8, a9, b9, c9, a10, b10, c10, a11, b11, c11, a12, a15, c15, a14, b14, c14, e1, e2, e3, e4, e5, e6, r1, r2, r3, r4, r5, r6, r7, r8, r9, r10, r11, r12, r13, r14, r15, r16, r17, hwk, hso, hrn, hnu, hpt, hrg, hbx, hor, hsa, hsb, hsc, hsn, hwz, hth, hla, hli, hlt, hpr, hby, htp, hrm, hhd, hlr, hK⟩ := hr
  have i100 : i < 100 := by omega
  obtain ⟨t, y1, y2, y3, y4, y5⟩ := hsc i hi h3
  refine ⟨upd (J 147) t (nI (s 15)), ?_, rr_dep hr0 hi hK2 hc hphi (sa_end hsa y5 c15) ?_ ?_⟩
  · rw [vw_at (lo := 43) (I := J) i100, y2, ← a15]
    exact e_end a12 y1 (by omega)
  · refine sb_end (i := i) hsb y2 (fun p e => ⟨?_, ?_⟩) (by omega) y1
    · rw [vup_ne _ _ _ _ e, vup_ne _ _ _ _ e, vup_ne _ _ _ _ e]
    · rw [vup_ne _ _ _ _ e, vup_ne _ _ _ _ e, vup_ne _ _ _ _ e]
  · refine sc_end (i := i) hsc y3 hi (by omega) (fun p e => ⟨?_, ?_, ?_⟩) ?_
    · rw [vup_ne _ _ _ _ e, vup_ne _ _ _ _ e, vup_ne _ _ _ _ e]
    · rw [vup_ne _ _ _ _ e, vup_ne _ _ _ _ e, vup_ne _ _ _ _ e]
    · rw [vup_ne _ _ _ _ e, vup_ne _ _ _ _ e, vup_ne _ _ _ _ e]
    · show vup (vw 43 100 J) i 3 c i 3 ≠ 0
      rw [vup_at]
      rcases hc with ⟨rfl, _⟩ | ⟨rfl, _⟩ <;> decide
theorem pr_setOff {F : Nat} {s : Nat → Nat} {J K : j_M} {i t d K2 : Nat} (hF : 20000000 < F) (hr : RR F s J K) (hi : i < s 1) (h3 : vw 43 100 J i 3 = 0) (ht : t < s 0) (hd : 1 ≤ d) (hd2 : d ≤ 1000000) (hK2 : s 13 ≤ K2 ∧ K2 ≤ 512) (hphi : 1 + (if J 3 t = 0 then 1 else 0) ≤ p_phi (vw 43 100 J) (J 3) i + 2 * (K2 - s 13)) : j_wp2 (f_G_setOff F i (nI t) (nI d) J) (f_M_goes F (nI i) (nI t) (nI d) K) (fun _ J' _ K' => ∃ n8, RR F (p_up (p_up s 8 n8) 13 K2) J' K' ∧ vw 43 100 J' = vup (vup (vup (vup (vw 43 100 J) i 6 (-1)) i 3 1) i 4 (nI t)) i 5 (nI (s 2 + d)) ∧ frL J J' ∧ frJ J J' ∧ frK K K') := by
  unfold f_G_setOff f_M_goes
  refine wp2_bd (wp2_mono (pr_quit hF hr hi) ?_)
  have hr0 := hr
  obtain ⟨a0, b0, c0, a1, b1, c1, a2, b2, c2, a3, b3, c3, d3, a4, b4, c4, a5, b5, c5, a6, b6, c6, a7, b7, c7, a8, b8, c8, a9, b9, c9, a10, b10, c10, a11, b11, c11, a12, a15, c15, a14, b14, c14, e1, e2, e3, e4, e5, e6, r1, r2, r3, r4, r5, r6, r7, r8, r9, r10, r11, r12, r13, r14, r15, r16, r17, hwk, hso, hrn, hnu, hpt, hrg, hbx, hor, hsa, hsb, hsc, hsn, hwz, hth, hla, hli, hlt, hpr, hby, htp, hrm, hhd, hlr, hK⟩ := hr
  have i100 : i < 100 := by omega
  have oi : j_ok (nI i) 100 = true := j_ok_nI i100 (by decide)
  rintro v J1 w K1 ⟨n8, k1, k2, kL, k3, k4⟩
  obtain ⟨u, w1, w2⟩ := pr_end (F := F) (K2 := K2) (c := 1) (x := nI t) (y := nI (s 2 + d)) k1 hi (by rw [k2]; exact h3) hK2 (Or.inl ⟨rfl, t, ht, rfl⟩) (by
    rw [k2, kL 3 (by decide), j_ix_nI (by omega)]
    exact hphi)
  rw [w1]
  have q2 : J1 0 11 = nI (s 2) := k1.2.2.2.2.2.2.1
  have q3 : K1 215 2 = nI (s 2) := k1.2.2.2.2.2.2.2.1
  simp only [oi, if_true, j_ix_nI (show i < 2 ^ 31 by omega), j_letE, j_bdS]
  rw [jvw_wr1 (lo := 43) (hi := 100) (J := j_rw J1 147 u) (k := 3) i100, jvw_wr2 (lo := 43) (hi := 100) i100]
  simp (disch := decide) only [jvw_out, rw_ne, q2, q3, j_wr_cell, nI_add, vw_rw]
  rw [jvw_wr2 (lo := 43) (hi := 100) i100]
  refine wp2_Ln (nI_ne (b := 0) (by omega) (by omega) (by decide)) (wp2_mk rfl rfl ⟨n8, w2, ?_, ?_, ?_, ?_⟩)
  · rw [vw_jvw (v0_up (v0_up (v0_up (v0_vw _ _ _) i100) i100) i100), k2]
  · intro c hc
    rw [jvw_out (by omega), rw_ne (show c ≠ 147 by omega), kL c hc]
  · exact frJ_vw (by decide) (frJ_rw (by decide) k3)
  · exact frK_wr (by decide) (frK_wr (by decide) (frK_wr (by decide) k4))
theorem op_go (F : Nat) (hF : 20000000 < F) (x1 x2 : Int32) : OP F (f_G_go F x1 x2) (f_M_go F x1 x2) := by
  intro s J K hs h
  have h0 := h
  obtain ⟨hr, h1, h2⟩ := h
  have hr0 := hr
  obtain ⟨a0, b0, c0, a1, b1, c1, a2, b2, c2, a3, b3, c3, d3, a4, b4, c4, a5, b5, c5, a6, b6, c6, a7, b7, c7, a8, b8, c8, a9, b9, c9, a10, b10, c10, a11, b11, c11, a12, a15, c15, a14, b14, c14, e1, e2, e3, e4, e5, e6, r1, r2, r3, r4, r5, r6, r7, r8, r9, r10, r11, r12, r13, r14, r15, r16, r17, hwk, hso, hrn, hnu, hpt, hrg, hbx, hor, hsa, hsb, hsc, hsn, hwz, hth, hla, hli, hlt, hpr, hby, htp, hrm, hhd, hlr, hK⟩ := hr
  simp only [f_G_go, f_M_go, e_Gu_has, e_Gr_has, e_isPa F x1 K b1 (by omega), e_isPl F x2 K b0 (by omega), j_bdS, j_letE, a1, a0]
  refine wp2_ite Iff.rfl (fun q1 => wp2_mk rfl rfl (op_idle hs h0 rfl)) (fun q1 => ?_)
  refine wp2_ite Iff.rfl (fun q1 => wp2_mk rfl rfl (op_idle hs h0 rfl)) (fun q2 => ?_)
  obtain ⟨i, hi, rfl⟩ := nI_in1 (by omega) (b10n q1)
  obtain ⟨t, ht, rfl⟩ := nI_in1 (by omega) (b10n q2)
  have i100 : i < 100 := by omega
  have oi : j_ok (nI i) 100 = true := j_ok_nI i100 (by decide)
  have ot : j_ok (nI t) 16 = true := j_ok_nI (by omega) (by decide)
  obtain ⟨p1, p2, p3, p4, p5, p6, p7, p8, p9, p10⟩ := hpt i hi
  simp only [oi, ot, if_true, j_ix_nI (show i < 2 ^ 31 by omega), j_ix_nI (show t < 2 ^ 31 by omega), vw_at i100, ← p3, ← p4]
  refine wp2_ite Iff.rfl (fun z3 => ?_) (fun _ => wp2_mk rfl rfl (op_idle hs h0 rfl))
  refine wp2_ite Iff.rfl (fun _ => wp2_mk rfl rfl (op_idle hs h0 rfl)) (fun z4 => ?_)
  obtain ⟨q, hq, eq⟩ := (hrg i hi).2.2.1 (by rw [z3]; decide)
  rw [eq] at z4 ⊢
  have hqt : q ≠ t := fun z => z4 (by rw [z])
  rw [e_mb c0 a0 hq ht, j_bdS]
  refine wp2_R (wpo_mono (l_far hF c0 b0 hwk hq) ?_)
  rintro v K' ⟨g, rfl, hg⟩
  obtain ⟨d, hd, ed, hd1⟩ := l_ways c0 hwk hq ht
  rw [rw_at, hg t ht, vw_at (lo := 22) (I := J) (show q < 16 by omega), ed]
  have hrg2 : RR F s J (j_rw K 221 g) := ⟨a0, b0, c0, a1, b1, c1, a2, b2, c2, a3, b3, c3, d3, a4, b4, c4, a5, b5, c5, a6, b6, c6, a7, b7, c7, a8, b8, c8, a9, b9, c9, a10, b10, c10, a11, b11, c11, a12, a15, c15, a14, b14, c14, e1, e2, e3, e4, e5, e6, r1, r2, r3, r4, r5, r6, r7, r8, r9, r10, r11, r12, r13, r14, r15, r16, r17, (by (try simp (disch := decide) only [vw_wr, vw_rw, vw_jvo]); exact hwk), hso, hrn, (by (try simp (disch := decide) only [vw_wr, vw_rw, vw_jvo]); exact hnu), (by (try simp (disch := decide) only [vw_wr, vw_rw, vw_jvo]); exact hpt), (by (try simp (disch := decide) only [vw_wr, vw_rw, vw_jvo]); exact hrg), (by (try simp (disch := decide) only [vw_wr, vw_rw, vw_jvo]); exact hbx), hor, (by (try simp (disch := decide) only [vw_wr, vw_rw, vw_jvo]); exact hsa), (by (try simp (disch := decide) only [vw_wr, vw_rw, vw_jvo]); exact hsb), (by (try simp (disch := decide) only [vw_wr, vw_rw, vw_jvo]); exact hsc), (by (try simp (disch := decide) only [vw_wr, vw_rw, vw_jvo]); exact hsn), hwz, hth, (by (try simp (disch := decide) only [vw_wr, vw_rw, vw_jvo]); exact hla), hli, hlt, hpr, hby, htp, hrm, (by (try simp (disch := decide) only [vw_wr, vw_rw, vw_jvo]); exact hhd), hlr, hK⟩
  by_cases e : d = 1000000
  · refine wp2_Ln (by subst e; exact nI_nlt (b := 1000000) (by omega) (by omega)) (wp2_Rp (by rw [e]; rfl) (wp2_mk rfl rfl (op_fin (s' := s) hs rfl rfl (frJ_rf _) (frK_rw (by decide) (frK_rf _)) ⟨hrg2, h1, h2⟩)))
  · refine wp2_Lp (nI_lt (b := 1000000) (by omega) (by omega)) (wp2_Rn (nI_ne (b := 1000000) e (by omega) (by omega)) ?_)
    refine wp2_bd (wp2_mono (pr_setOff (K2 := s 13 + 1) (t := t) (d := d) hF hrg2 hi z3 ht (hd1 hqt) hd ⟨by omega, by omega⟩ (by split <;> omega)) ?_)
    rintro v J' w K' ⟨n8, k1, k2, -, k3, k4⟩
    refine wp2_mk rfl rfl ⟨rfl, k3, frK_tr (frK_rw (by decide) (frK_rf _)) k4, _, rfl, k1, ?_, h2⟩
    rw [k2]
    intro j hj z
    by_cases ej : j = i
    · subst ej
      exact ⟨s 2 + d, by have := hd1 hqt; show s 2 < s 2 + d; omega, by omega, vup_at _ _ _ _⟩
    · rw [vup_ne _ _ _ _ ej, vup_ne _ _ _ _ ej, vup_ne _ _ _ _ ej, vup_ne _ _ _ _ ej] at z
      rw [vup_ne _ _ _ _ ej, vup_ne _ _ _ _ ej, vup_ne _ _ _ _ ej, vup_ne _ _ _ _ ej]
      exact h1 j hj z
