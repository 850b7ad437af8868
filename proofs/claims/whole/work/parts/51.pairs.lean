theorem l_pt1 {np i : Nat} {v : Int32} {P : Nat → Nat → Int32} {h1 h2 h3 h4 h5 h6 h7 h8 h9 h10 h' : Nat → Int32} (h : R_pt np P h1 h2 h3 h4 h5 h6 h7 h8 h9 h10) (e1 : h' i = v) (e2 : ∀ j, j ≠ i → h' j = h1 j) : R_pt np (vup P i 1 v) h' h2 h3 h4 h5 h6 h7 h8 h9 h10 := by
  intro j hj
  obtain ⟨p1, p2, p3, p4, p5, p6, p7, p8, p9, p10⟩ := h j hj
  refine ⟨?_, p2, p3, p4, p5, p6, p7, p8, p9, p10⟩
  by_cases e : j = i
  · subst e; rw [vup_at, e1]
  · rw [vup_ne _ _ _ _ e, e2 j e]; exact p1
theorem l_pt2 {np i : Nat} {v : Int32} {P : Nat → Nat → Int32} {h1 h2 h3 h4 h5 h6 h7 h8 h9 h10 h' : Nat → Int32} (h : R_pt np P h1 h2 h3 h4 h5 h6 h7 h8 h9 h10) (e1 : h' i = v) (e2 : ∀ j, j ≠ i → h' j = h2 j) : R_pt np (vup P i 2 v) h1 h' h3 h4 h5 h6 h7 h8 h9 h10 := by
  intro j hj
  obtain ⟨p1, p2, p3, p4, p5, p6, p7, p8, p9, p10⟩ := h j hj
  refine ⟨p1, ?_, p3, p4, p5, p6, p7, p8, p9, p10⟩
  by_cases e : j = i
  · subst e; rw [vup_at, e1]
  · rw [vup_ne _ _ _ _ e, e2 j e]; exact p2
theorem l_pt3 {np i : Nat} {v : Int32} {P : Nat → Nat → Int32} {h1 h2 h3 h4 h5 h6 h7 h8 h9 h10 h' : Nat → Int32} (h : R_pt np P h1 h2 h3 h4 h5 h6 h7 h8 h9 h10) (e1 : h' i = v) (e2 : ∀ j, j ≠ i → h' j = h3 j) : R_pt np (vup P i 3 v) h1 h2 h' h4 h5 h6 h7 h8 h9 h10 := by
  intro j hj
  obtain ⟨p1, p2, p3, p4, p5, p6, p7, p8, p9, p10⟩ := h j hj
  refine ⟨p1, p2, ?_, p4, p5, p6, p7, p8, p9, p10⟩
  by_cases e : j = i
  · subst e; rw [vup_at, e1]
  · rw [vup_ne _ _ _ _ e, e2 j e]; exact p3
theorem l_pt4 {np i : Nat} {v : Int32} {P : Nat → Nat → Int32} {h1 h2 h3 h4 h5 h6 h7 h8 h9 h10 h' : Nat → Int32} (h : R_pt np P h1 h2 h3 h4 h5 h6 h7 h8 h9 h10) (e1 : h' i = v) (e2 : ∀ j, j ≠ i → h' j = h4 j) : R_pt np (vup P i 4 v) h1 h2 h3 h' h5 h6 h7 h8 h9 h10 := by
  intro j hj
  obtain ⟨p1, p2, p3, p4, p5, p6, p7, p8, p9, p10⟩ := h j hj
  refine ⟨p1, p2, p3, ?_, p5, p6, p7, p8, p9, p10⟩
  by_cases e : j = i
  · subst e; rw [vup_at, e1]
  · rw [vup_ne _ _ _ _ e, e2 j e]; exact p4
theorem l_pt5 {np i : Nat} {v : Int32} {P : Nat → Nat → Int32} {h1 h2 h3 h4 h5 h6 h7 h8 h9 h10 h' : Nat → Int32} (h : R_pt np P h1 h2 h3 h4 h5 h6 h7 h8 h9 h10) (e1 : h' i = v) (e2 : ∀ j, j ≠ i → h' j = h5 j) : R_pt np (vup P i 5 v) h1 h2 h3 h4 h' h6 h7 h8 h9 h10 := by
  intro j hj
  obtain ⟨p1, p2, p3, p4, p5, p6, p7, p8, p9, p10⟩ := h j hj
  refine ⟨p1, p2, p3, p4, ?_, p6, p7, p8, p9, p10⟩
  by_cases e : j = i
  · subst e; rw [vup_at, e1]
  · rw [vup_ne _ _ _ _ e, e2 j e]; exact p5
theorem l_pt6 {np i : Nat} {v : Int32} {P : Nat → Nat → Int32} {h1 h2 h3 h4 h5 h6 h7 h8 h9 h10 h' : Nat → Int32} (h : R_pt np P h1 h2 h3 h4 h5 h6 h7 h8 h9 h10) (e1 : h' i = v) (e2 : ∀ j, j ≠ i → h' j = h6 j) : R_pt np (vup P i 6 v) h1 h2 h3 h4 h5 h' h7 h8 h9 h10 := by
  intro j hj
  obtain ⟨p1, p2, p3, p4, p5, p6, p7, p8, p9, p10⟩ := h j hj
  refine ⟨p1, p2, p3, p4, p5, ?_, p7, p8, p9, p10⟩
  by_cases e : j = i
  · subst e; rw [vup_at, e1]
  · rw [vup_ne _ _ _ _ e, e2 j e]; exact p6
theorem l_pt7 {np i : Nat} {v : Int32} {P : Nat → Nat → Int32} {h1 h2 h3 h4 h5 h6 h7 h8 h9 h10 h' : Nat → Int32} (h : R_pt np P h1 h2 h3 h4 h5 h6 h7 h8 h9 h10) (e1 : h' i = v) (e2 : ∀ j, j ≠ i → h' j = h7 j) : R_pt np (vup P i 7 v) h1 h2 h3 h4 h5 h6 h' h8 h9 h10 := by
  intro j hj
  obtain ⟨p1, p2, p3, p4, p5, p6, p7, p8, p9, p10⟩ := h j hj
  refine ⟨p1, p2, p3, p4, p5, p6, ?_, p8, p9, p10⟩
  by_cases e : j = i
  · subst e; rw [vup_at, e1]
  · rw [vup_ne _ _ _ _ e, e2 j e]; exact p7
theorem l_pt8 {np i : Nat} {v : Int32} {P : Nat → Nat → Int32} {h1 h2 h3 h4 h5 h6 h7 h8 h9 h10 h' : Nat → Int32} (h : R_pt np P h1 h2 h3 h4 h5 h6 h7 h8 h9 h10) (e1 : h' i = v) (e2 : ∀ j, j ≠ i → h' j = h8 j) : R_pt np (vup P i 8 v) h1 h2 h3 h4 h5 h6 h7 h' h9 h10 := by
  intro j hj
  obtain ⟨p1, p2, p3, p4, p5, p6, p7, p8, p9, p10⟩ := h j hj
  refine ⟨p1, p2, p3, p4, p5, p6, p7, ?_, p9, p10⟩
  by_cases e : j = i
  · subst e; rw [vup_at, e1]
  · rw [vup_ne _ _ _ _ e, e2 j e]; exact p8
theorem l_pt9 {np i : Nat} {v : Int32} {P : Nat → Nat → Int32} {h1 h2 h3 h4 h5 h6 h7 h8 h9 h10 h' : Nat → Int32} (h : R_pt np P h1 h2 h3 h4 h5 h6 h7 h8 h9 h10) (e1 : h' i = v) (e2 : ∀ j, j ≠ i → h' j = h9 j) : R_pt np (vup P i 9 v) h1 h2 h3 h4 h5 h6 h7 h8 h' h10 := by
  intro j hj
  obtain ⟨p1, p2, p3, p4, p5, p6, p7, p8, p9, p10⟩ := h j hj
  refine ⟨p1, p2, p3, p4, p5, p6, p7, p8, ?_, p10⟩
  by_cases e : j = i
  · subst e; rw [vup_at, e1]
  · rw [vup_ne _ _ _ _ e, e2 j e]; exact p9
theorem l_pt10 {np i : Nat} {v : Int32} {P : Nat → Nat → Int32} {h1 h2 h3 h4 h5 h6 h7 h8 h9 h10 h' : Nat → Int32} (h : R_pt np P h1 h2 h3 h4 h5 h6 h7 h8 h9 h10) (e1 : h' i = v) (e2 : ∀ j, j ≠ i → h' j = h10 j) : R_pt np (vup P i 10 v) h1 h2 h3 h4 h5 h6 h7 h8 h9 h' := by
  intro j hj
  obtain ⟨p1, p2, p3, p4, p5, p6, p7, p8, p9, p10⟩ := h j hj
  refine ⟨p1, p2, p3, p4, p5, p6, p7, p8, p9, ?_⟩
  by_cases e : j = i
  · subst e; rw [vup_at, e1]
  · rw [vup_ne _ _ _ _ e, e2 j e]; exact p10

/-! getting up, setting off, arriving, going out: both sides -/
theorem bx_quit {np nb i b : Nat} {P : Nat → Nat → Int32} {J : j_M} (hbx : R_bx np nb P (J 197)) (hi : i < np) (hb : b < nb) (z : P i 6 = nI b) (hnp : np < 2 ^ 31) (hnb : nb < 2 ^ 31) : R_bx np nb (vup P i 6 (-1)) (j_wr J 197 b (-1) 197) := by
  have own : ∀ j, j < np → P j 6 = nI b → j = i := by
    intro j hj zj
    rcases hbx b hb with ⟨u1, u2⟩ | ⟨t, u1, u2, u3, u4⟩
    · exact absurd z (u2 i hi)
    · rw [u4 j hj zj, u4 i hi z]
  intro b' hb'
  have hne : ∀ j, j < np → vup P i 6 (-1) j 6 = nI b' → j ≠ i ∧ P j 6 = nI b' := by
    intro j hj zj
    by_cases ej : j = i
    · subst ej; rw [vup_at] at zj; exact absurd zj.symm (nI_nem (by omega))
    · rw [vup_ne _ _ _ _ ej] at zj; exact ⟨ej, zj⟩
  by_cases e : b' = b
  · subst e
    refine Or.inl ⟨j_wr_same _ _ _ _, fun j hj zj => ?_⟩
    exact (hne j hj zj).1 (own j hj (hne j hj zj).2)
  · rw [j_wr_idx _ _ _ e]
    rcases hbx b' hb' with ⟨u1, u2⟩ | ⟨t, u1, u2, u3, u4⟩
    · exact Or.inl ⟨u1, fun j hj zj => u2 j hj (hne j hj zj).2⟩
    · refine Or.inr ⟨t, u1, u2, ?_, fun j hj zj => u4 j hj (hne j hj zj).2⟩
      have : t ≠ i := fun q => by
        subst q
        rw [z] at u3; exact e ((nI_eq (by omega) (by omega)).mp u3).symm
      rw [vup_ne _ _ _ _ this]; exact u3
theorem rg_up6 {n np mi nb i : Nat} {P : Nat → Nat → Int32} (h : R_rg n np mi nb P) : R_rg n np mi nb (vup P i 6 (-1)) := by
  intro j hj
  obtain ⟨w1, w2, w3, w4, w5⟩ := h j hj
  refine ⟨w1, w2, w3, ?_, ?_⟩
  · by_cases e : j = i
    · subst e; rw [vup_at]; exact Or.inl rfl
    · rw [vup_ne _ _ _ _ e]; exact w4
  · intro z
    by_cases e : j = i
    · subst e; rw [vup_at]
    · rw [vup_ne _ _ _ _ e]; exact w5 z
theorem vup_id {V : Nat → Nat → Int32} {i k : Nat} {v : Int32} (h : V i k = v) : vup V i k v = V := by
  funext a b
  unfold vup
  by_cases e : b = k ∧ a = i
  · rw [if_pos e, e.1, e.2, h]
  · rw [if_neg e]
def frL (J0 J : j_M) : Prop := ∀ c, c < 43 → J c = J0 c
theorem pr_quit {F : Nat} {s : Nat → Nat} {J K : j_M} {i : Nat} (hF : 20000000 < F) (hr : RR F s J K) (hi : i < s 1) : j_wp2 (f_G_quitBox F i J) (f_M_getsUp F (nI i) K) (fun _ J' _ K' => ∃ n8, RR F (p_up s 8 n8) J' K' ∧ vw 43 100 J' = vup (vw 43 100 J) i 6 (-1) ∧ frL J J' ∧ frJ J J' ∧ frK K K') := by
  have hr0 := hr
  obtain ⟨a0, b0, c0, a1, b1, c1, a2, b2, c2, a3, b3, c3, d3, a4, b4, c4, a5, b5, c5, a6, b6, c6, a7, b7, c7, a8, b8, c8, a9, b9, c9, a10, b10, c10, a11, b11, c11, a12, a15, c15, a14, b14, c14, e1, e2, e3, e4, e5, e6, r1, r2, r3, r4, r5, r6, r7, r8, r9, r10, r11, r12, r13, r14, r15, r16, r17, hwk, hso, hrn, hnu, hpt, hrg, hbx, hor, hsa, hsb, hsc, hsn, hwz, hth, hla, hli, hlt, hpr, hby, htp, hrm, hhd, hlr, hK⟩ := hr
  have i100 : i < 100 := by omega
  have oi : j_ok (nI i) 100 = true := j_ok_nI i100 (by decide)
  have p6 := (hpt i hi).2.2.2.2.2.1
  unfold f_G_quitBox f_M_getsUp
  simp only [e_Bo_has, j_bdS, j_letE, a7, oi, if_true, j_ix_nI (show i < 2 ^ 31 by omega), vw_at i100]
  rcases (hrg i hi).2.2.2.1 with z | ⟨b, hb, z⟩
  · rw [z]
    refine wp2_Lp (by rw [if_neg (fun q => absurd q.1 (by decide))]) (wp2_Rn (by rw [← p6, z]; decide) (wp2_mk rfl rfl ⟨s 8, ?_, (vup_id z).symm, fun _ _ => rfl, frJ_rf _, frK_rf _⟩))
    have : p_up s 8 (s 8) = s := by
      funext k; unfold p_up
      by_cases e : k = 8
      · rw [if_pos e, e]
      · rw [if_neg e]
    rw [this]; exact hr0
  · rw [z]
    refine wp2_Ln (by rw [if_pos ⟨nI_pos' (by omega), nI_lt hb (by omega)⟩]; decide) (wp2_Rp (by rw [← p6, z]; exact nI_pos' (by omega)) ?_)
    refine wp2_Lp (j_ok_nI (by omega) (by decide)) ?_
    rw [j_ix_nI (by omega), jvw_wr1 (lo := 43) (hi := 100) i100, vw_wr (by decide)]
    have hv0 : v0 100 (vup (vw 43 100 J) i 6 (-1)) := v0_up (v0_vw _ _ _) i100
    have e0 : vw 43 100 (jvw (j_wr J 197 b (-1)) 43 100 (vup (vw 43 100 J) i 6 (-1))) i 0 = nI i := by rw [vw_jvw hv0]; exact hnu i i100
    rw [e0]
    obtain ⟨v, J', w, K', f1, f2, kept, A, B, C, hk, hA, rfl, rfl⟩ := l_drop (F := F) (np := s 1) (no := s 8) (x := nI i) (J := jvw (j_wr J 197 b (-1)) 43 100 (vup (vw 43 100 J) i 6 (-1))) (K := j_wr K 228 i (-1)) hF a8 b8 c8 r7 r8 r9 hor
    rw [f1, f2]
    refine wp2_mk rfl rfl ⟨kept, ?_, ?_, ?_, ?_, ?_⟩
    · exact ⟨a0, b0, c0, a1, b1, c1, a2, b2, c2, a3, b3, c3, d3, a4, b4, c4, a5, b5, c5, a6, b6, c6, a7, b7, c7, rfl, rfl, (show kept ≤ 60 by omega), a9, b9, c9, a10, b10, c10, a11, b11, c11, a12, a15, c15, a14, b14, c14, e1, e2, e3, e4, e5, e6, r1, r2, r3, r4, r5, r6, rfl, rfl, rfl, r10, r11, r12, r13, r14, r15, r16, r17, (by (try simp (disch := decide) only [vw_wr, vw_rw, vw_jvo]); exact hwk), hso, hrn, (by (try simp (disch := decide) only [vw_wr, vw_rw]); rw [vw_jvw (by assumption)]; exact hnu), (by (try simp (disch := decide) only [vw_wr, vw_rw]); rw [vw_jvw (by assumption)]; exact (l_pt6 hpt (j_wr_same _ _ _ _) (fun j e => j_wr_idx _ _ _ e))), (by (try simp (disch := decide) only [vw_wr, vw_rw]); rw [vw_jvw (by assumption)]; exact (rg_up6 hrg)), (by (try simp (disch := decide) only [vw_wr, vw_rw]); rw [vw_jvw (by assumption)]; exact (bx_quit hbx hi hb z (show s 1 < 2 ^ 31 by omega) (show s 7 < 2 ^ 31 by omega))), hA, (by (try simp (disch := decide) only [vw_wr, vw_rw]); rw [vw_jvw (by assumption)]; exact hsa), (by (try simp (disch := decide) only [vw_wr, vw_rw]); rw [vw_jvw (by assumption)]; exact hsb), (by (try simp (disch := decide) only [vw_wr, vw_rw]); rw [vw_jvw (by assumption)]; exact hsc), (by (try simp (disch := decide) only [vw_wr, vw_rw]); rw [vw_jvw (by assumption)]; exact hsn), hwz, hth, (by (try simp (disch := decide) only [vw_wr, vw_rw, vw_jvo]); exact hla), hli, hlt, hpr, hby, htp, hrm, (by (try simp (disch := decide) only [vw_wr, vw_rw]); rw [vw_jvw (by assumption)]; exact hhd), hlr, hK⟩
    · simp (disch := decide) only [vw_wr, vw_rw]; rw [vw_jvw hv0]
    · intro c hc; dsimp only; rw [j_wr_cell _ _ _ (show c ≠ 198 by omega), rw_ne (show c ≠ 201 by omega), rw_ne (show c ≠ 200 by omega), rw_ne (show c ≠ 199 by omega), jvw_out (by omega), j_wr_cell _ _ _ (show c ≠ 197 by omega)]
    · exact frJ_wr (by decide) (frJ_rw (by decide) (frJ_rw (by decide) (frJ_rw (by decide) (frJ_vw (by decide) (frJ_wr (by decide) (frJ_rf _))))))
    · exact frK_wr (by decide) (frK_rw (by decide) (frK_rw (by decide) (frK_rw (by decide) (frK_wr (by decide) (frK_rf _)))))
theorem op_rise (F : Nat) (hF : 20000000 < F) (x1 : Int32) : OP F (f_G_rise F x1) (f_M_rise F x1) := by
  intro s J K hs h
  have h0 := h
  obtain ⟨hr, h1, h2⟩ := h
  have hr0 := hr
  obtain ⟨a0, b0, c0, a1, b1, c1, a2, b2, c2, a3, b3, c3, d3, a4, b4, c4, a5, b5, c5, a6, b6, c6, a7, b7, c7, a8, b8, c8, a9, b9, c9, a10, b10, c10, a11, b11, c11, a12, a15, c15, a14, b14, c14, e1, e2, e3, e4, e5, e6, r1, r2, r3, r4, r5, r6, r7, r8, r9, r10, r11, r12, r13, r14, r15, r16, r17, hwk, hso, hrn, hnu, hpt, hrg, hbx, hor, hsa, hsb, hsc, hsn, hwz, hth, hla, hli, hlt, hpr, hby, htp, hrm, hhd, hlr, hK⟩ := hr
  simp only [f_G_rise, f_M_rise, e_Gu_has, e_isPa F x1 K b1 (by omega), j_bdS, j_letE, a1]
  refine wp2_ite Iff.rfl (fun q1 => wp2_mk rfl rfl (op_idle hs h0 rfl)) (fun q1 => ?_)
  obtain ⟨i, hi, rfl⟩ := nI_in1 (by omega) (b10n q1)
  have i100 : i < 100 := by omega
  have oi : j_ok (nI i) 100 = true := j_ok_nI i100 (by decide)
  have p6 := (hpt i hi).2.2.2.2.2.1
  simp only [oi, if_true, j_ix_nI (show i < 2 ^ 31 by omega), vw_at i100]
  rcases (hrg i hi).2.2.2.1 with z | ⟨b, hb, z⟩
  · exact wp2_Lp z (wp2_Rn (by rw [← p6, z]; decide) (wp2_mk rfl rfl (op_idle hs h0 rfl)))
  · refine wp2_Ln (by rw [z]; exact nI_nem (by omega)) (wp2_Rp (by rw [← p6, z]; exact nI_pos' (by omega)) (wp2_bd (wp2_mono (pr_quit hF hr0 hi) ?_)))
    rintro v J' w K' ⟨n8, k1, k2, -, k3, k4⟩
    exact wp2_mk rfl rfl (op_fin (s' := p_up s 8 n8) hs rfl p6 k3 k4 ⟨k1, by rw [k2]; exact h1, h2⟩)
