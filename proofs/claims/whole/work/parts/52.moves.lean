/-! settling, setting off, going out -/
theorem e_settle {F i ns : Nat} {x : Int32} {J : j_M} (hi : i < 100) (hnu : vw 43 100 J i 0 = nI i) (a12 : J 143 1 = nI ns) (hns : ns < 1040) : f_G_settle F i x J = some (0, jvw (j_wr (j_wr (j_wr (j_wr (j_wr J 144 ns (nI i)) 145 ns x) 146 ns (J 143 0)) 147 ns 480) 143 1 (nI (ns + 1))) 43 100 (vup (vup (vup (vup (vw 43 100 J) i 3 0) i 4 x) i 5 (-1)) i 11 (nI ns))) := by
  unfold f_G_settle f_Wa_openStay
  simp only [j_letE]
  rw [jvw_wr1 (lo := 43) (hi := 100) (J := J) (k := 3) hi, jvw_wr2 (lo := 43) (hi := 100) hi, jvw_wr2 (lo := 43) (hi := 100) hi]
  have h0 : jvw J 43 100 (vup (vup (vup (vw 43 100 J) i 3 0) i 4 x) i 5 (-1)) (43 + i) 0 = nI i := by rw [jvw_in hi]; exact hnu
  rw [h0]
  have o : j_ok (nI ns) 1040 = true := j_ok_nI hns (by decide)
  have c : nI ns < 1040 := nI_lt (b := 1040) hns (by decide)
  simp (disch := decide) only [j_wr_cell, jvw_out, a12, o, c, if_true, j_ix_nI (show ns < 2 ^ 31 by omega), j_wr_same, j_bdS, jvw_wr3]
  rw [jvw_wr2 (lo := 43) (hi := 100) hi, nI_1, nI_pred]
theorem R_ns {F : Nat} {s : Nat → Nat} {J K : j_M} (hr : RR F s J K) : s 12 ≤ 1024 := by
  obtain ⟨a0, b0, c0, a1, b1, c1, a2, b2, c2, a3, b3, c3, d3, a4, b4, c4, a5, b5, c5, a6, b6, c6, a7, b7, c7, a8, b8, c8, a9, b9, c9, a10, b10, c10, a11, b11, c11, a12, a15, c15, a14, b14, c14, e1, e2, e3, e4, e5, e6, r1, r2, r3, r4, r5, r6, r7, r8, r9, r10, r11, r12, r13, r14, r15, r16, r17, hwk, hso, hrn, hnu, hpt, hrg, hbx, hor, hsa, hsb, hsc, hsn, hwz, hth, hla, hli, hlt, hpr, hby, htp, hrm, hhd, hlr, hK⟩ := hr
  unfold R_sn at hsn
  omega
/-- a walking party arrives -/
theorem pr_settle {F : Nat} {s : Nat → Nat} {J K : j_M} {i : Nat} (hr : RR F s J K) (hi : i < s 1) (h3 : vw 43 100 J i 3 = 1) : f_G_settle F i (J (43 + i) 4) J = some (0, jvw (j_wr (j_wr (j_wr (j_wr (j_wr J 144 (s 12) (nI i)) 145 (s 12) (vw 43 100 J i 4)) 146 (s 12) (J 143 0)) 147 (s 12) 480) 143 1 (nI (s 12 + 1))) 43 100 (vup (vup (vup (vup (vw 43 100 J) i 3 0) i 4 (vw 43 100 J i 4)) i 5 (-1)) i 11 (nI (s 12)))) ∧ RR F (p_up s 12 (s 12 + 1)) (jvw (j_wr (j_wr (j_wr (j_wr (j_wr J 144 (s 12) (nI i)) 145 (s 12) (vw 43 100 J i 4)) 146 (s 12) (J 143 0)) 147 (s 12) 480) 143 1 (nI (s 12 + 1))) 43 100 (vup (vup (vup (vup (vw 43 100 J) i 3 0) i 4 (vw 43 100 J i 4)) i 5 (-1)) i 11 (nI (s 12)))) (j_wr (j_wr K 225 i 0) 227 i (-1)) := by
  have hns := R_ns hr
  obtain ⟨a0, b0, c0, a1, b1, c1, a2, b2, c2, a3, b3, c3, d3, a4, b4, c4, a5, b5, c5, a6, b6, c6, a7, b7, c7, a8, b8, c8, a9, b9, c9, a10, b10, c10, a11, b11, c11, a12, a15, c15, a14, b14, c14, e1, e2, e3, e4, e5, e6, r1, r2, r3, r4, r5, r6, r7, r8, r9, r10, r11, r12, r13, r14, r15, r16, r17, hwk, hso, hrn, hnu, hpt, hrg, hbx, hor, hsa, hsb, hsc, hsn, hwz, hth, hla, hli, hlt, hpr, hby, htp, hrm, hhd, hlr, hK⟩ := hr
  have i100 : i < 100 := by omega
  refine ⟨?_, ?_⟩
  · rw [vw_at (lo := 43) (I := J) i100]
    exact e_settle i100 (hnu i i100) a12 (by omega)
  · have hv0 : v0 100 (vup (vup (vup (vup (vw 43 100 J) i 3 0) i 4 (vw 43 100 J i 4)) i 5 (-1)) i 11 (nI (s 12))) := v0_up (v0_up (v0_up (v0_up (v0_vw _ _ _) i100) i100) i100) i100
    have hoth : ∀ p f, p ≠ i → vup (vup (vup (vup (vw 43 100 J) i 3 0) i 4 (vw 43 100 J i 4)) i 5 (-1)) i 11 (nI (s 12)) p f = vw 43 100 J p f := fun p f e => by
      rw [vup_ne _ _ _ _ e, vup_ne _ _ _ _ e, vup_ne _ _ _ _ e, vup_ne _ _ _ _ e]
    have u4 : vup (vup (vup (vup (vw 43 100 J) i 3 0) i 4 (vw 43 100 J i 4)) i 5 (-1)) i 11 (nI (s 12)) i 4 = vw 43 100 J i 4 := vup_at _ _ _ _
    have u3 : vup (vup (vup (vup (vw 43 100 J) i 3 0) i 4 (vw 43 100 J i 4)) i 5 (-1)) i 11 (nI (s 12)) i 3 = 0 := vup_at (vw 43 100 J) _ _ _
    have u11 : vup (vup (vup (vup (vw 43 100 J) i 3 0) i 4 (vw 43 100 J i 4)) i 5 (-1)) i 11 (nI (s 12)) i 11 = nI (s 12) := vup_at _ _ _ _
    exact ⟨a0, b0, c0, a1, b1, c1, a2, b2, c2, a3, b3, c3, d3, a4, b4, c4, a5, b5, c5, a6, b6, c6, a7, b7, c7, a8, b8, c8, a9, b9, c9, a10, b10, c10, a11, b11, c11, rfl, a15, c15, a14, b14, c14, e1, e2, e3, e4, e5, e6, r1, r2, r3, r4, r5, r6, r7, r8, r9, r10, r11, r12, r13, r14, r15, r16, r17, (by (try simp (disch := decide) only [vw_wr, vw_rw, vw_jvo]); exact hwk), hso, hrn, (by (try simp (disch := decide) only [vw_wr, vw_rw]); rw [vw_jvw (by assumption)]; exact hnu), (by (try simp (disch := decide) only [vw_wr, vw_rw]); rw [vw_jvw (by assumption)]; exact (l_pt5 (l_pt4 (l_pt3 hpt (j_wr_same _ _ _ _) (fun j e => j_wr_idx _ _ _ e)) ((hpt i hi).2.2.2.1).symm (fun j e => rfl)) (j_wr_same _ _ _ _) (fun j e => j_wr_idx _ _ _ e))), (by (try simp (disch := decide) only [vw_wr, vw_rw]); rw [vw_jvw (by assumption)]; exact (fun j hj => (by
      obtain ⟨w1, w2, w3, w4, w5⟩ := hrg j hj
      by_cases e : j = i
      · subst e
        refine ⟨w1, Or.inl u3, fun _ => ?_, w4, fun z => absurd (u3.symm.trans z) (by decide)⟩
        rw [u4]; exact w3 (by rw [h3]; decide)
      · have z3 := hoth j 3 e
        have z4 := hoth j 4 e
        refine ⟨w1, ?_, ?_, w4, ?_⟩
        · rw [z3]; exact w2
        · rw [z3, z4]; exact w3
        · rw [z3]; exact w5))), (by (try simp (disch := decide) only [vw_wr, vw_rw]); rw [vw_jvw (by assumption)]; exact hbx), hor, (by (try simp (disch := decide) only [vw_wr, vw_rw]); rw [vw_jvw (by assumption)]; exact (by
      have q := sa_new (np' := s 1) (i := i) (x := vw 43 100 J i 4) (P' := vup (vup (vup (vup (vw 43 100 J) i 3 0) i 4 (vw 43 100 J i 4)) i 5 (-1)) i 11 (nI (s 12))) hsa hsb (fun p hp => rfl) (fun p h1 h2 => absurd h1 (by omega)) (by omega) (by omega)
      rw [← a15] at q
      show R_sa _ _ _ _ (j_wr J 144 (s 12) (nI i) 144) (j_wr J 145 (s 12) (vw 43 100 J i 4) 145) (j_wr J 146 (s 12) (J 143 0) 146) (j_wr J 147 (s 12) 480 147) _
      rw [j_wr_row, j_wr_row, j_wr_row, j_wr_row]
      exact q)), (by (try simp (disch := decide) only [vw_wr, vw_rw]); rw [vw_jvw (by assumption)]; exact (by
      have q := sb_new (np' := s 1) (i := i) (P' := vup (vup (vup (vup (vw 43 100 J) i 3 0) i 4 (vw 43 100 J i 4)) i 5 (-1)) i 11 (nI (s 12))) hsb (Nat.le_refl _) hi (fun p hp z e => (by subst e; rw [h3] at z; exact absurd z (by decide))) (fun p hp e => ⟨hoth p 3 e, hoth p 11 e⟩) u3 u11
      rw [← a15] at q
      show R_sb _ _ _ _ (j_wr J 144 (s 12) (nI i) 144) (j_wr J 146 (s 12) (J 143 0) 146) (j_wr J 147 (s 12) 480 147)
      rw [j_wr_row, j_wr_row, j_wr_row]
      exact q)), (by (try simp (disch := decide) only [vw_wr, vw_rw]); rw [vw_jvw (by assumption)]; exact (by
      have q := sc_new (np' := s 1) (i := i) (x := vw 43 100 J i 4) (P' := vup (vup (vup (vup (vw 43 100 J) i 3 0) i 4 (vw 43 100 J i 4)) i 5 (-1)) i 11 (nI (s 12))) hsc (fun p hp _ => hp) (fun p hp e => ⟨hoth p 3 e, hoth p 4 e, hoth p 11 e⟩) u4 u11
      show R_sc _ _ _ (j_wr J 144 (s 12) (nI i) 144) (j_wr J 145 (s 12) (vw 43 100 J i 4) 145) (j_wr J 147 (s 12) 480 147)
      rw [j_wr_row, j_wr_row, j_wr_row]
      exact q)), (by (try simp (disch := decide) only [vw_wr, vw_rw]); rw [vw_jvw (by assumption)]; exact (by
      show s 12 + 1 + p_sum (p_phi (vup (vup (vup (vup (vw 43 100 J) i 3 0) i 4 (vw 43 100 J i 4)) i 5 (-1)) i 11 (nI (s 12))) (J 3)) (s 1) ≤ 2 * s 13
      have q := sn_up (f := p_phi (vw 43 100 J) (J 3)) (g := p_phi (vup (vup (vup (vup (vw 43 100 J) i 3 0) i 4 (vw 43 100 J i 4)) i 5 (-1)) i 11 (nI (s 12))) (J 3)) (np := s 1) (i := i) (fun p hp e => (by unfold p_phi; rw [hoth p 3 e, hoth p 4 e])) hi
      have q1 : p_phi (vw 43 100 J) (J 3) i = 1 + (if J 3 (j_ix (vw 43 100 J i 4)) = 0 then 1 else 0) := by
        unfold p_phi; rw [h3, if_neg (by decide), if_pos rfl]
      have q2 : p_phi (vup (vup (vup (vup (vw 43 100 J) i 3 0) i 4 (vw 43 100 J i 4)) i 5 (-1)) i 11 (nI (s 12))) (J 3) i = 0 + (if J 3 (j_ix (vw 43 100 J i 4)) = 0 then 1 else 0) := by
        unfold p_phi; rw [u3, u4, if_neg (by decide), if_neg (by decide)]
      unfold R_sn at hsn
      omega)), hwz, hth, (by (try simp (disch := decide) only [vw_wr, vw_rw, vw_jvo]); exact hla), hli, hlt, hpr, hby, htp, hrm, (by (try simp (disch := decide) only [vw_wr, vw_rw]); rw [vw_jvw (by assumption)]; exact hhd), hlr, hK⟩
