/-! walk, feed, let -/
theorem op_walk (F : Nat) (hF : 20000000 < F) (x1 x2 x3 : Int32) : OP F (f_G_walk F x1 x2 x3) (f_M_walk F x1 x2 x3) := by
  intro s J K hs h
  have h0 := h
  obtain ⟨hr, h1, h2⟩ := h
  obtain ⟨a0, b0, c0, a1, b1, c1, a2, b2, c2, a3, b3, c3, d3, a4, b4, c4, a5, b5, c5, a6, b6, c6, a7, b7, c7, a8, b8, c8, a9, b9, c9, a10, b10, c10, a11, b11, c11, a12, a15, c15, a14, b14, c14, e1, e2, e3, e4, e5, e6, r1, r2, r3, r4, r5, r6, r7, r8, r9, r10, r11, r12, r13, r14, r15, r16, r17, hwk, hso, hrn, hnu, hpt, hrg, hbx, hor, hsa, hsb, hsc, hsn, hwz, hth, hla, hli, hlt, hpr, hby, htp, hrm, hhd, hlr, hK⟩ := hr
  simp only [f_G_walk, f_M_walk, e_within, e_among, e_Gr_has, e_isPl F x1 K b0 (by omega), e_isPl F x2 K b0 (by omega), j_bdS, j_letE, a0, f_Gr_setWalk]
  refine wp2_ite Iff.rfl (fun q1 => wp2_mk rfl rfl (op_idle hs h0 rfl)) (fun q1 => ?_)
  refine wp2_ite Iff.rfl (fun q1 => wp2_mk rfl rfl (op_idle hs h0 rfl)) (fun q2 => ?_)
  refine wp2_ite Iff.rfl (fun q1 => wp2_mk rfl rfl (op_idle hs h0 rfl)) (fun q3 => ?_)
  refine wp2_ite Iff.rfl (fun q1 => wp2_mk rfl rfl (op_idle hs h0 rfl)) (fun q4 => ?_)
  obtain ⟨a, ha, rfl⟩ := nI_in1 (by omega) (b10n q1)
  obtain ⟨b, hb, rfl⟩ := nI_in1 (by omega) (b10n q2)
  obtain ⟨n, hn, rfl⟩ := nI_in2 60 rfl (by omega) (b10n q4)
  have hab : a ≠ b := fun z => q3 (by rw [z])
  have o1 : j_ok (nI a) 16 = true := j_ok_nI (by omega) (by decide)
  have o2 : j_ok (nI b) 16 = true := j_ok_nI (by omega) (by decide)
  have x12 : (16 : Int32) * nI a + nI b = nI (16 * a + b) := by rw [show (16 : Int32) = nI 16 from rfl, pk_mul, nI_add]
  have x21 : (16 : Int32) * nI b + nI a = nI (16 * b + a) := by rw [show (16 : Int32) = nI 16 from rfl, pk_mul, nI_add]
  have o3 : j_ok (nI (16 * a + b)) 256 = true := j_ok_nI (by omega) (by decide)
  have o4 : j_ok (nI (16 * b + a)) 256 = true := j_ok_nI (by omega) (by decide)
  simp only [x12, x21, o1, o2, o3, o4, if_true, j_ix_nI (show a < 2 ^ 31 by omega), j_ix_nI (show b < 2 ^ 31 by omega), j_ix_nI (show 16 * a + b < 2 ^ 31 by omega), j_ix_nI (show 16 * b + a < 2 ^ 31 by omega)]
  have hwk0 := hwk
  obtain ⟨w, D, y1, y2, y3, y4, y5⟩ := hwk
  rw [jvw_wr1 (lo := 5) (hi := 16) (J := J) (show a < 16 by omega), jvw_wr2 (lo := 5) (hi := 16) (show b < 16 by omega)]
  have hw' : ∀ x y, (if (x = a ∧ y = b) ∨ (x = b ∧ y = a) then n else w x y) ≤ 60 := fun x y => by
    have := y1 x y
    split <;> omega
  have hz : v0 16 (vup (vup (vw 5 16 J) a b (nI n)) b a (nI n)) := v0_up (v0_up (v0_vw _ _ _) (by omega)) (by omega)
  have hW : ∀ x y, x < 16 → y < 16 → vup (vup (vw 5 16 J) a b (nI n)) b a (nI n) x y = nI (if (x = a ∧ y = b) ∨ (x = b ∧ y = a) then n else w x y) := fun x y hx hy => by
    unfold vup
    by_cases e1 : y = a ∧ x = b
    · rw [if_pos e1, if_pos (by omega)]
    · rw [if_neg e1]
      by_cases e2 : y = b ∧ x = a
      · rw [if_pos e2, if_pos (by omega)]
      · rw [if_neg e2, if_neg (by omega)]; exact (y3 x y hx hy).1
  refine wp2_L (wpo_bd (wpo_mono (p_measure (F := F) (n := s 0) (w := fun x y => if (x = a ∧ y = b) ∨ (x = b ∧ y = a) then n else w x y) (by omega) c0 ?_ hw' ?_) ?_))
  · exact a0
  · intro x y hx hy
    rw [jvw_in hx]
    exact hW x y hx hy
  rintro v J2 ⟨rfl, hoth, D2, z1, z2, z3⟩
  have eJ : J2 = jvw (jvw J 5 16 (vup (vup (vw 5 16 J) a b (nI n)) b a (nI n))) 22 16 (vw 22 16 J2) := by
    funext c k
    by_cases e : 22 ≤ c ∧ c < 22 + 16
    · obtain ⟨i, hi, rfl⟩ : ∃ i, i < 16 ∧ c = 22 + i := ⟨c - 22, by omega, by omega⟩
      rw [jvw_in hi, ← vw_at hi]
    · rw [jvw_out (by omega)]; exact hoth c k (by omega)
  refine wpo_some ?_
  rw [eJ]
  have hv22 := v0_vw 22 16 J2
  refine wp2_mk rfl rfl (op_fin (s' := s) hs rfl ?_ ?_ ?_ ⟨?_, ?_, h2⟩)
  · show J (5 + a) b = K 218 (16 * a + b)
    rw [vw_at (lo := 5) (I := J) (show a < 16 by omega), (y3 a b (by omega) (by omega)).1, (y3 a b (by omega) (by omega)).2.1]
  · exact frJ_vw (by decide) (frJ_vw (by decide) (frJ_rf _))
  · exact frK_wr (by decide) (frK_wr (by decide) (frK_rf _))
  · exact ⟨a0, b0, c0, a1, b1, c1, a2, b2, c2, a3, b3, c3, d3, a4, b4, c4, a5, b5, c5, a6, b6, c6, a7, b7, c7, a8, b8, c8, a9, b9, c9, a10, b10, c10, a11, b11, c11, a12, a15, c15, a14, b14, c14, e1, e2, e3, e4, e5, e6, r1, r2, r3, r4, r5, r6, r7, r8, r9, r10, r11, r12, r13, r14, r15, r16, r17, (by
      rw [vw_jvw hv22, vw_jvo (by decide), vw_jvw hz]
      refine ⟨_, D2, hw', fun x y hxy => ?_, fun x y hx hy => ⟨hW x y hx hy, ?_, ?_⟩, z2, z3⟩
      · rw [if_neg (by omega)]; exact y2 x y hxy
      · rw [j_wr_at, j_wr_at]
        by_cases e1 : x = b ∧ y = a
        · rw [if_pos (by omega), if_pos (by omega)]
        · rw [if_neg (by omega)]
          by_cases e2 : x = a ∧ y = b
          · rw [if_pos (by omega), if_pos (by omega)]
          · rw [if_neg (by omega), if_neg (by omega)]; exact (y3 x y hx hy).2.1
      · rw [← vw_at hx]; exact z1 x y hx hy), hso, hrn, (by (try simp (disch := decide) only [vw_wr, vw_rw, vw_jvo]); exact hnu), (by (try simp (disch := decide) only [vw_wr, vw_rw, vw_jvo]); exact hpt), (by (try simp (disch := decide) only [vw_wr, vw_rw, vw_jvo]); exact hrg), (by (try simp (disch := decide) only [vw_wr, vw_rw, vw_jvo]); exact hbx), hor, (by (try simp (disch := decide) only [vw_wr, vw_rw, vw_jvo]); exact hsa), (by (try simp (disch := decide) only [vw_wr, vw_rw, vw_jvo]); exact hsb), (by (try simp (disch := decide) only [vw_wr, vw_rw, vw_jvo]); exact hsc), (by (try simp (disch := decide) only [vw_wr, vw_rw, vw_jvo]); exact hsn), hwz, hth, (by (try simp (disch := decide) only [vw_wr, vw_rw, vw_jvo]); exact hla), hli, hlt, hpr, hby, htp, hrm, (by (try simp (disch := decide) only [vw_wr, vw_rw, vw_jvo]); exact hhd), hlr, hK⟩
  · simp (disch := decide) only [vw_jvo]; exact h1
theorem upd_upd {f : Nat → Int32} {k : Nat} {a b : Int32} : upd (upd f k a) k b = upd f k b := by
  funext y; unfold upd
  by_cases e : y = k
  · rw [if_pos e, if_pos e]
  · rw [if_neg e, if_neg e, if_neg e]
theorem l_feed {F n tp npr : Nat} {x2 : Int32} {J K : j_M} (hF : 20000000 < F) (hn : n ≤ 4) (htn : tp + n ≤ 120) (hp : npr ≤ 30) (a9 : J 202 0 = nI npr) (a10 : J 202 1 = nI tp) (b10 : K 215 51 = nI tp) (hby : R_by (J 203)) (htp : R_tp npr tp (J 203) (K 245)) : j_wp2 (f_Pr_write F (nI n) x2 J) (f_M_feed_27 F (nI n) x2 0 K) (fun v J' w K' => v = w ∧ ∃ g g', R_by g ∧ (∀ k, k < 120 * npr → g k = J 203 k) ∧ R_tp npr (tp + n) g g' ∧ J' = j_rw (j_rw J 203 g) 202 (upd (J 202) 1 (nI (tp + n))) ∧ K' = j_rw (j_rw K 245 g') 215 (upd (K 215) 51 (nI (tp + n)))) := by
  unfold f_Pr_write f_Pr_write_2 f_M_feed_27
  refine j_it2 (Inv := fun k q r => ∃ i g g', i + k = n ∧ R_by g ∧ (∀ k, k < 120 * npr → g k = J 203 k) ∧ R_tp npr (tp + i) g g' ∧ q = (nI n, x2, nI i, j_rw (j_rw J 203 g) 202 (upd (J 202) 1 (nI (tp + i)))) ∧ r = (nI n, x2, nI i, j_rw (j_rw K 245 g') 215 (upd (K 215) 51 (nI (tp + i))))) ?_ F n _ _ (by omega) ⟨0, J 203, K 245, by omega, hby, fun _ _ => rfl, htp, ?_, ?_⟩
  · intro k q r g1 g2 hq hag
    obtain ⟨i, g, g', hi, hg, hg2, ht, rfl, rfl⟩ := hq
    dsimp only
    unfold f_Pr_write_2b f_M_feed_27b
    by_cases e : i = n
    · subst e
      have c : nI i ≤ nI i := nI_le (by omega) (by omega)
      exact wp2_Lp c (wp2_Rp c (wp2_mk rfl rfl ⟨rfl, g, g', hg, hg2, ht, rfl, rfl⟩))
    · have c : ¬ nI n ≤ nI i := nI_ge (by omega) (by omega)
      have r1 : (j_rw (j_rw J 203 g) 202 (upd (J 202) 1 (nI (tp + i)))) 202 0 = nI npr := a9
      have r2 : (j_rw (j_rw J 203 g) 202 (upd (J 202) 1 (nI (tp + i)))) 202 1 = nI (tp + i) := rfl
      have r3 : (j_rw (j_rw K 245 g') 215 (upd (K 215) 51 (nI (tp + i)))) 215 51 = nI (tp + i) := rfl
      have xi : nI npr * 120 + nI (tp + i) = nI (npr * 120 + (tp + i)) := by rw [show (120 : Int32) = nI 120 from rfl, pk_mul, nI_add]
      simp only [j_letE, r1, r2, r3, xi, nI_1, j_ix_nI (show npr * 120 + (tp + i) < 2 ^ 31 by omega), j_ix_nI (show tp + i < 2 ^ 31 by omega)]
      refine wp2_Ln c (wp2_Rn c (wp2_Lp (j_ok_nI (by omega) (by decide)) (wp2_Rp (j_ok_nI (by omega) (by decide)) ?_)))
      generalize hv : (((x2 >>> (8 * nI i &&& 31)).toInt8.toInt32).toInt8.toInt32) = v
      have hv2 : v.toInt8.toInt32 = v := by rw [← hv]; simp
      refine hag _ _ (k - 1) (by omega) ⟨i + 1, upd g (npr * 120 + (tp + i)) v, upd g' (tp + i) v, by omega, fun t => ?_, fun t ht2 => ?_, fun t ht2 => ?_, ?_, ?_⟩
      · unfold upd
        by_cases e2 : t = npr * 120 + (tp + i)
        · rw [if_pos e2]; exact hv2
        · rw [if_neg e2]; exact hg t
      · unfold upd; rw [if_neg (by omega)]; exact hg2 t ht2
      · unfold upd
        by_cases e2 : t = tp + i
        · rw [if_pos (by omega), if_pos e2]
        · rw [if_neg (by omega), if_neg e2]; exact ht t (by omega)
      · rw [wr_ne (by decide), rw_wr, rw_wr, upd_upd, show tp + (i + 1) = tp + i + 1 from rfl, ← nI_1 (tp + i)]
        rfl
      · rw [wr_ne (by decide), rw_wr, rw_wr, upd_upd, show tp + (i + 1) = tp + i + 1 from rfl, ← nI_1 (tp + i)]
        rfl
  · rw [show tp + 0 = tp from rfl, ← a10, rw_self]
    rw [upd_id rfl, rw_self]; rfl
  · rw [show tp + 0 = tp from rfl, ← b10, rw_self]
    rw [upd_id rfl, rw_self]; rfl
theorem op_feed (F : Nat) (hF : 20000000 < F) (x1 x2 : Int32) : OP F (f_G_feed F x1 x2) (f_M_feed F x1 x2) := by
  intro s J K hs h
  have h0 := h
  obtain ⟨hr, h1, h2⟩ := h
  obtain ⟨a0, b0, c0, a1, b1, c1, a2, b2, c2, a3, b3, c3, d3, a4, b4, c4, a5, b5, c5, a6, b6, c6, a7, b7, c7, a8, b8, c8, a9, b9, c9, a10, b10, c10, a11, b11, c11, a12, a15, c15, a14, b14, c14, e1, e2, e3, e4, e5, e6, r1, r2, r3, r4, r5, r6, r7, r8, r9, r10, r11, r12, r13, r14, r15, r16, r17, hwk, hso, hrn, hnu, hpt, hrg, hbx, hor, hsa, hsb, hsc, hsn, hwz, hth, hla, hli, hlt, hpr, hby, htp, hrm, hhd, hlr, hK⟩ := hr
  simp only [f_G_feed, f_M_feed, e_within, e_among, j_bdS, j_letE, a10, b10]
  refine wp2_ite Iff.rfl (fun q1 => wp2_mk rfl rfl (op_idle hs h0 rfl)) (fun q1 => ?_)
  have q1' := b10n q1
  obtain ⟨n, hn, rfl⟩ := nI_in2 4 rfl (by omega) ⟨Int32.le_trans (by decide) q1'.1, q1'.2⟩
  refine wp2_ite Iff.rfl (fun q2 => ?_) (fun q1 => wp2_mk rfl rfl (op_idle hs h0 rfl))
  rw [nI_add] at q2
  have htn : s 10 + n ≤ 120 := (nI_leI (b := 120) (by omega) (by omega)).mp q2
  obtain ⟨v, J', w, K', f1, f2, rfl, g, g', g1, g2, g3, rfl, rfl⟩ := l_feed (x2 := x2) hF hn htn c9 a9 a10 b10 hby htp
  rw [f1, f2]
  refine wp2_mk rfl rfl (op_fin (s' := p_up s 10 (s 10 + n)) hs rfl rfl (frJ_rw (by decide) (frJ_rw (by decide) (frJ_rf _))) (frK_rw (by decide) (frK_rw (by decide) (frK_rf _))) ⟨?_, ?_, h2⟩)
  · exact ⟨a0, b0, c0, a1, b1, c1, a2, b2, c2, a3, b3, c3, d3, a4, b4, c4, a5, b5, c5, a6, b6, c6, a7, b7, c7, a8, b8, c8, a9, b9, c9, rfl, rfl, htn, a11, b11, c11, a12, a15, c15, a14, b14, c14, e1, e2, e3, e4, e5, e6, r1, r2, r3, r4, r5, r6, r7, r8, r9, r10, r11, r12, r13, r14, r15, r16, r17, (by (try simp (disch := decide) only [vw_wr, vw_rw, vw_jvo]); exact hwk), hso, hrn, (by (try simp (disch := decide) only [vw_wr, vw_rw, vw_jvo]); exact hnu), (by (try simp (disch := decide) only [vw_wr, vw_rw, vw_jvo]); exact hpt), (by (try simp (disch := decide) only [vw_wr, vw_rw, vw_jvo]); exact hrg), (by (try simp (disch := decide) only [vw_wr, vw_rw, vw_jvo]); exact hbx), hor, (by (try simp (disch := decide) only [vw_wr, vw_rw, vw_jvo]); exact hsa), (by (try simp (disch := decide) only [vw_wr, vw_rw, vw_jvo]); exact hsb), (by (try simp (disch := decide) only [vw_wr, vw_rw, vw_jvo]); exact hsc), (by (try simp (disch := decide) only [vw_wr, vw_rw, vw_jvo]); exact hsn), hwz, hth, (by (try simp (disch := decide) only [vw_wr, vw_rw, vw_jvo]); exact hla), hli, hlt, (fun o ho J2 K2 k1 k2 k3 k4 k5 k6 => hpr o ho J2 K2 (fun k hk => (k1 k hk).trans (g2 _ (by have : o < s 9 := ho; omega))) k2 k3 k4 k5 k6), g1, g3, hrm, (by (try simp (disch := decide) only [vw_wr, vw_rw, vw_jvo]); exact hhd), hlr, hK⟩
  · simp (disch := decide) only [vw_rw]; exact h1
theorem l_bx_let {np nb i b : Nat} {P : Nat → Nat → Int32} {J : j_M} (hbx : R_bx np nb P (J 197)) (hi : i < np) (hb : b < nb) (z : P i 6 = -1) (y1 : J 197 b = -1) (hnp : np < 2 ^ 31) (hnb : nb < 2 ^ 31) : R_bx np nb (vup P i 6 (nI b)) (j_wr J 197 b (nI i) 197) := by
  intro b' hb'
  by_cases e : b' = b
  · subst e
    refine Or.inr ⟨i, hi, j_wr_same _ _ _ _, ?_, fun j hj zj => ?_⟩
    · unfold vup; rw [if_pos ⟨rfl, rfl⟩]
    · by_cases ej : j = i
      · exact ej
      · unfold vup at zj
        rw [if_neg (fun q => ej q.2)] at zj
        rcases hbx b' hb' with ⟨u1, u2⟩ | ⟨t, u1, u2, u3, u4⟩
        · exact absurd zj (u2 j hj)
        · rw [y1] at u2; exact absurd u2.symm (nI_nem (by omega))
  · rw [j_wr_idx _ _ _ e]
    have hne : ∀ j, j < np → vup P i 6 (nI b) j 6 = nI b' → j ≠ i ∧ P j 6 = nI b' := by
      intro j hj zj
      unfold vup at zj
      by_cases ej : j = i
      · rw [if_pos ⟨rfl, ej⟩] at zj; exact absurd ((nI_eq (by omega) (by omega)).mp zj) (fun q => e q.symm)
      · rw [if_neg (fun q => ej q.2)] at zj; exact ⟨ej, zj⟩
    rcases hbx b' hb' with ⟨u1, u2⟩ | ⟨t, u1, u2, u3, u4⟩
    · exact Or.inl ⟨u1, fun j hj zj => u2 j hj (hne j hj zj).2⟩
    · refine Or.inr ⟨t, u1, u2, ?_, fun j hj zj => u4 j hj (hne j hj zj).2⟩
      have : t ≠ i := fun q => by
        subst q
        rw [z] at u3; exact absurd u3.symm (nI_nem (by omega))
      unfold vup; rw [if_neg (fun q => this q.2)]; exact u3
theorem l_pt_up6 {np : Nat} {P : Nat → Nat → Int32} {K : j_M} {h1 h2 h3 h4 h5 h7 h8 h9 h10 : Nat → Int32} (h : R_pt np P h1 h2 h3 h4 h5 (K 228) h7 h8 h9 h10) (i : Nat) (v : Int32) : R_pt np (vup P i 6 v) h1 h2 h3 h4 h5 (j_wr K 228 i v 228) h7 h8 h9 h10 := by
  intro j hj
  obtain ⟨p1, p2, p3, p4, p5, p6, p7⟩ := h j hj
  refine ⟨p1, p2, p3, p4, p5, ?_, p7⟩
  unfold vup
  by_cases e : j = i
  · rw [if_pos ⟨rfl, e⟩, e, j_wr_same]
  · rw [if_neg (fun q => e q.2), j_wr_idx _ _ _ e]; exact p6
theorem op_let (F : Nat) (hF : 20000000 < F) (x1 x2 : Int32) : OP F (f_G_let F x1 x2) (f_M_let F x1 x2) := by
  intro s J K hs h
  have h0 := h
  obtain ⟨hr, h1, h2⟩ := h
  obtain ⟨a0, b0, c0, a1, b1, c1, a2, b2, c2, a3, b3, c3, d3, a4, b4, c4, a5, b5, c5, a6, b6, c6, a7, b7, c7, a8, b8, c8, a9, b9, c9, a10, b10, c10, a11, b11, c11, a12, a15, c15, a14, b14, c14, e1, e2, e3, e4, e5, e6, r1, r2, r3, r4, r5, r6, r7, r8, r9, r10, r11, r12, r13, r14, r15, r16, r17, hwk, hso, hrn, hnu, hpt, hrg, hbx, hor, hsa, hsb, hsc, hsn, hwz, hth, hla, hli, hlt, hpr, hby, htp, hrm, hhd, hlr, hK⟩ := hr
  simp only [f_G_let, f_M_let, e_Bo_has, e_Gu_has, e_isBo F x1 K b7 (by omega), e_isPa F x2 K b1 (by omega), j_bdS, j_letE, a7, a1]
  refine wp2_ite Iff.rfl (fun q1 => wp2_mk rfl rfl (op_idle hs h0 rfl)) (fun q1 => ?_)
  refine wp2_ite Iff.rfl (fun q1 => wp2_mk rfl rfl (op_idle hs h0 rfl)) (fun q2 => ?_)
  obtain ⟨b, hb, rfl⟩ := nI_in1 (by omega) (b10n q1)
  obtain ⟨i, hi, rfl⟩ := nI_in1 (by omega) (b10n q2)
  have o1 : j_ok (nI b) 20 = true := j_ok_nI (by omega) (by decide)
  have o2 : j_ok (nI i) 100 = true := j_ok_nI (by omega) (by decide)
  refine wp2_R (wpo_mono (l_whoIn (J := J) hF b1 c1 hb (fun i hi => (hpt i hi).2.2.2.2.2.1) hbx) ?_)
  rintro w K' ⟨hKK, hh⟩
  rw [hKK]
  clear hKK
  obtain ⟨p1, p2, p3, p4, p5, p6, p7, p8, p9, p10⟩ := hpt i hi
  simp only [o1, o2, if_true, j_ix_nI (show b < 2 ^ 31 by omega), j_ix_nI (show i < 2 ^ 31 by omega), vw_at (show i < 100 by omega), f_G_let_85]
  rcases hh with ⟨y1, rfl⟩ | ⟨t, ht, y1, rfl⟩
  · refine wp2_Rn (by decide) ?_
    have u0 : f_G_let_86 F (nI b) (nI i) i 0 J = some (-2, J) := by
      unfold f_G_let_86
      rw [if_pos o1, j_ix_nI (by omega), if_pos y1]; rfl
    rw [u0, p1, p3, p4, r5, r6]
    refine wp2_ite Iff.rfl (fun _ => ?_) (fun _ => wp2_mk rfl rfl (op_idle hs h0 rfl))
    refine wp2_ite Iff.rfl (fun _ => ?_) (fun _ => wp2_mk rfl rfl (op_idle hs h0 rfl))
    rcases (hrg i hi).2.2.2.1 with z | ⟨b2, hb2, z⟩
    · refine wp2_Lp z (wp2_Rn (by rw [← p6, z]; decide) ?_)
      by_cases zz : K 241 b < K 223 i
      · exact wp2_Lp zz (wp2_Rn (Int32.not_le.mpr zz) (wp2_mk rfl rfl (op_idle hs h0 rfl)))
      · refine wp2_Ln zz (wp2_Rp (Int32.not_lt.mp zz) ?_)
        unfold f_G_let_86
        simp only [o1, if_true, j_ix_nI (show b < 2 ^ 31 by omega), j_letE]
        rw [jvw_wr1 (lo := 43) (hi := 100) (show i < 100 by omega), vw_wr (by decide)]
        have hv0 : v0 100 (vup (vw 43 100 J) i 6 (nI b)) := v0_up (v0_vw _ _ _) (by omega)
        refine wp2_Lp y1 (wp2_Ln (by decide) (wp2_mk rfl rfl (op_fin (s' := s) hs rfl rfl (frJ_vw (by decide) (frJ_wr (by decide) (frJ_rf _))) (frK_wr (by decide) (frK_rf _)) ⟨?_, ?_, h2⟩)))
        · exact ⟨a0, b0, c0, a1, b1, c1, a2, b2, c2, a3, b3, c3, d3, a4, b4, c4, a5, b5, c5, a6, b6, c6, a7, b7, c7, a8, b8, c8, a9, b9, c9, a10, b10, c10, a11, b11, c11, a12, a15, c15, a14, b14, c14, e1, e2, e3, e4, e5, e6, r1, r2, r3, r4, r5, r6, r7, r8, r9, r10, r11, r12, r13, r14, r15, r16, r17, (by (try simp (disch := decide) only [vw_wr, vw_rw, vw_jvo]); exact hwk), hso, hrn, (by (try simp (disch := decide) only [vw_wr, vw_rw]); rw [vw_jvw (by assumption)]; exact hnu), (by (try simp (disch := decide) only [vw_wr, vw_rw]); rw [vw_jvw (by assumption)]; exact (l_pt_up6 hpt i (nI b))), (by (try simp (disch := decide) only [vw_wr, vw_rw]); rw [vw_jvw (by assumption)]; exact (fun j hj => (by
            obtain ⟨w1, w2, w3, w4, w5⟩ := hrg j hj
            refine ⟨w1, w2, w3, ?_, ?_⟩
            · unfold vup
              by_cases e : j = i
              · rw [if_pos ⟨rfl, e⟩]; exact Or.inr ⟨b, hb, rfl⟩
              · rw [if_neg (fun z => e z.2)]; exact w4
            · intro z2
              unfold vup
              by_cases e : j = i
              · subst e
                exact absurd (p3.symm.trans z2) (by rename_i zs _; rw [zs]; decide)
              · rw [if_neg (fun z => e z.2)]; exact w5 z2))), (by (try simp (disch := decide) only [vw_wr, vw_rw]); rw [vw_jvw (by assumption)]; exact (l_bx_let hbx hi hb z y1 (by omega) (by omega))), hor, (by (try simp (disch := decide) only [vw_wr, vw_rw]); rw [vw_jvw (by assumption)]; exact hsa), (by (try simp (disch := decide) only [vw_wr, vw_rw]); rw [vw_jvw (by assumption)]; exact hsb), (by (try simp (disch := decide) only [vw_wr, vw_rw]); rw [vw_jvw (by assumption)]; exact hsc), (by (try simp (disch := decide) only [vw_wr, vw_rw]); rw [vw_jvw (by assumption)]; exact hsn), hwz, hth, (by (try simp (disch := decide) only [vw_wr, vw_rw, vw_jvo]); exact hla), hli, hlt, hpr, hby, htp, hrm, (by (try simp (disch := decide) only [vw_wr, vw_rw]); rw [vw_jvw (by assumption)]; exact hhd), hlr, hK⟩
        · rw [vw_jvw (v0_up (v0_vw _ _ _) (by omega))]; exact h1
    · exact wp2_Ln (by rw [z]; exact nI_nem (by omega)) (wp2_Rp (by rw [← p6, z]; exact nI_pos' (by omega)) (wp2_mk rfl rfl (op_idle hs h0 rfl)))
  · have u0 : ∀ y, f_G_let_86 F (nI b) (nI i) i y J = some (-2, J) := by
      intro y
      unfold f_G_let_86
      rw [if_pos o1, j_ix_nI (by omega), if_neg (by rw [y1]; exact nI_nem (by omega))]
    simp only [u0, ite_self]
    exact wp2_Rp (nI_pos' (by omega)) (wp2_mk rfl rfl (op_idle hs h0 rfl))
