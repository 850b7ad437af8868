/-! sell, rain, way, feed -/
theorem upd_id {g : Nat → Int32} {k : Nat} {v : Int32} (h : g k = v) : upd g k v = g := by
  funext y; unfold upd
  by_cases e : y = k
  · rw [if_pos e, e, h]
  · rw [if_neg e]
theorem l_sell {F a b : Nat} {J K : j_M} (hF : 20000000 < F) (hb : b < 300) (hab : a ≤ b) (r3 : J 40 = K 222) (hso : R_01 (J 40)) : j_wp2 (f_G_sell_29 F (nI b) 0 (nI a) J) (f_M_sell_26 F (nI b) 0 (nI a) K) (fun v J' w K' => v = w ∧ ∃ g, R_01 g ∧ J' = j_rw J 40 g ∧ K' = j_rw K 222 g) := by
  unfold f_G_sell_29 f_M_sell_26
  refine j_it2 (Inv := fun k q r => ∃ i acc g, i + k = b + 1 ∧ R_01 g ∧ q = (nI b, acc, nI i, j_rw J 40 g) ∧ r = (nI b, acc, nI i, j_rw K 222 g)) ?_ F (b + 1 - a) _ _ (by omega) ⟨a, 0, J 40, by omega, hso, by rw [rw_self], by rw [r3, rw_self]⟩
  intro k q r g1 g2 hq hag
  obtain ⟨i, acc, g, hi, hg, rfl, rfl⟩ := hq
  dsimp only
  unfold f_G_sell_29b f_M_sell_26b
  by_cases e : i = b + 1
  · have c : nI b < nI i := nI_lt (by omega) (by omega)
    exact wp2_Lp c (wp2_Rp c (wp2_mk rfl rfl ⟨rfl, g, hg, rfl, rfl⟩))
  · have c : ¬ nI b < nI i := nI_nlt (by omega) (by omega)
    have o : j_ok (nI i) 300 = true := j_ok_nI (by omega) (by decide)
    refine wp2_Ln c (wp2_Rn c (wp2_Lp o (wp2_Rp o ?_)))
    unfold f_G_sell_56 f_M_sell_48
    simp only [j_letE, nI_1, j_ix_nI (show i < 2 ^ 31 by omega), rw_at, rw_wr, show (1 : Int32) &&& 1 = 1 from rfl]
    refine wp2_ite Iff.rfl (fun z => wp2_Lp o (wp2_Rp o ?_)) (fun z => wp2_Rp o ?_)
    · refine hag _ _ (k - 1) (by omega) ⟨i + 1, _, _, by omega, fun t => ?_, rfl, rfl⟩
      unfold upd
      by_cases e2 : t = i
      · rw [if_pos e2]; exact Or.inr rfl
      · rw [if_neg e2]; exact hg t
    · have z1 : g i = 1 := (hg i).resolve_left z
      rw [upd_id z1, Int32.add_zero]
      exact hag _ _ (k - 1) (by omega) ⟨i + 1, _, g, by omega, hg, rfl, rfl⟩
theorem op_sell (F : Nat) (hF : 20000000 < F) (x1 x2 : Int32) : OP F (f_G_sell F x1 x2) (f_M_sell F x1 x2) := by
  intro s J K hs h
  have h0 := h
  obtain ⟨hr, h1, h2⟩ := h
  obtain ⟨a0, b0, c0, a1, b1, c1, a2, b2, c2, a3, b3, c3, d3, a4, b4, c4, a5, b5, c5, a6, b6, c6, a7, b7, c7, a8, b8, c8, a9, b9, c9, a10, b10, c10, a11, b11, c11, a12, a15, c15, a14, b14, c14, e1, e2, e3, e4, e5, e6, r1, r2, r3, r4, r5, r6, r7, r8, r9, r10, r11, r12, r13, r14, r15, r16, r17, hwk, hso, hrn, hnu, hpt, hrg, hbx, hor, hsa, hsb, hsc, hsn, hwz, hth, hla, hli, hlt, hpr, hby, htp, hrm, hhd, hlr, hK⟩ := hr
  simp only [f_G_sell, f_M_sell, e_within, e_isTi, j_bdS, j_letE]
  refine wp2_ite Iff.rfl (fun q1 => wp2_mk rfl rfl (op_idle hs h0 rfl)) (fun q1 => ?_)
  have q1' := b10n q1
  by_cases hc : x1 ≤ x2 ∧ x2 ≤ 299
  · have hc2 : 0 ≤ x2 ∧ x2 ≤ 299 := ⟨Int32.le_trans q1'.1 hc.1, hc.2⟩
    rw [if_pos hc, if_pos hc2]
    obtain ⟨b, hb, rfl⟩ := nI_in2 299 rfl (by omega) hc2
    obtain ⟨a, ha, rfl⟩ := nI_in2 299 rfl (by omega) q1'
    refine wp2_Ln (by decide) (wp2_Rn (by decide) (wp2_Rp hc.1 (wp2_mono (l_sell hF (by omega) ((nI_leI (by omega) (by omega)).mp hc.1) r3 hso) ?_)))
    rintro v J' w K' ⟨rfl, g, hg, rfl, rfl⟩
    refine op_fin (s' := s) hs rfl rfl (frJ_rw (by decide) (frJ_rf _)) (frK_rw (by decide) (frK_rf _)) ⟨?_, ?_, h2⟩
    · exact ⟨a0, b0, c0, a1, b1, c1, a2, b2, c2, a3, b3, c3, d3, a4, b4, c4, a5, b5, c5, a6, b6, c6, a7, b7, c7, a8, b8, c8, a9, b9, c9, a10, b10, c10, a11, b11, c11, a12, a15, c15, a14, b14, c14, e1, e2, e3, e4, e5, e6, r1, r2, rfl, r4, r5, r6, r7, r8, r9, r10, r11, r12, r13, r14, r15, r16, r17, (by (try simp (disch := decide) only [vw_wr, vw_rw, vw_jvo]); exact hwk), hg, hrn, (by (try simp (disch := decide) only [vw_wr, vw_rw, vw_jvo]); exact hnu), (by (try simp (disch := decide) only [vw_wr, vw_rw, vw_jvo]); exact hpt), (by (try simp (disch := decide) only [vw_wr, vw_rw, vw_jvo]); exact hrg), (by (try simp (disch := decide) only [vw_wr, vw_rw, vw_jvo]); exact hbx), hor, (by (try simp (disch := decide) only [vw_wr, vw_rw, vw_jvo]); exact hsa), (by (try simp (disch := decide) only [vw_wr, vw_rw, vw_jvo]); exact hsb), (by (try simp (disch := decide) only [vw_wr, vw_rw, vw_jvo]); exact hsc), (by (try simp (disch := decide) only [vw_wr, vw_rw, vw_jvo]); exact hsn), hwz, hth, (by (try simp (disch := decide) only [vw_wr, vw_rw, vw_jvo]); exact hla), hli, hlt, hpr, hby, htp, hrm, (by (try simp (disch := decide) only [vw_wr, vw_rw, vw_jvo]); exact hhd), hlr, hK⟩
    · rw [vw_rw (by decide)]; exact h1
  · rw [if_neg hc]
    refine wp2_Lp rfl ?_
    by_cases hc2 : 0 ≤ x2 ∧ x2 ≤ 299
    · rw [if_pos hc2]
      exact wp2_Rn (by decide) (wp2_Rn (fun z => hc ⟨z, hc2.2⟩) (wp2_mk rfl rfl (op_idle hs h0 rfl)))
    · rw [if_neg hc2]
      exact wp2_Rp rfl (wp2_mk rfl rfl (op_idle hs h0 rfl))
theorem l_skadd {F a b : Nat} {J : j_M} (hF : 20000000 < F) (hb : b ≤ 480) (hab : a ≤ b) : j_wpo (f_Sk_add F (nI a) (nI b) J) (fun v J' => v = J 38 0 + 1 ∧ ∃ g, (∀ m, g m = if a ≤ m ∧ m < b then 1 else J 39 m) ∧ J' = j_wr (j_rw J 39 g) 38 0 (J 38 0 + 1)) := by
  unfold f_Sk_add f_Sk_add_2
  refine j_it_wp (Inv := fun k q => ∃ i g, i + k = b ∧ a ≤ i ∧ (∀ m, g m = if a ≤ m ∧ m < i then 1 else J 39 m) ∧ q = (nI b, nI i, j_rw J 39 g)) ?_ F (b - a) _ (by omega) ⟨a, J 39, by omega, by omega, fun m => by rw [if_neg (by omega)], by rw [rw_self]⟩
  intro k q g1 hq hag
  obtain ⟨i, g, hi, hia, hg, rfl⟩ := hq
  dsimp only
  unfold f_Sk_add_2b
  by_cases e : i = b
  · subst e
    refine wpo_pos (nI_le (by omega) (by omega)) (wpo_some ⟨rfl, g, hg, rfl⟩)
  · refine wpo_neg (nI_ge (by omega) (by omega)) (wpo_pos (j_ok_nI (by omega) (by decide)) ?_)
    simp only [j_letE, nI_1, j_ix_nI (show i < 2 ^ 31 by omega), rw_wr, show (1 : Int32) &&& 1 = 1 from rfl]
    refine hag _ (k - 1) (by omega) ⟨i + 1, _, by omega, by omega, fun m => ?_, rfl⟩
    unfold upd
    by_cases e2 : m = i
    · rw [if_pos e2, if_pos (by omega)]
    · rw [if_neg e2, hg m]
      by_cases e3 : a ≤ m ∧ m < i
      · rw [if_pos e3, if_pos (by omega)]
      · rw [if_neg e3, if_neg (by omega)]
theorem op_rain (F : Nat) (hF : 20000000 < F) (x1 x2 : Int32) : OP F (f_G_rain F x1 x2) (f_M_rain F x1 x2) := by
  intro s J K hs h
  have h0 := h
  obtain ⟨hr, h1, h2⟩ := h
  obtain ⟨a0, b0, c0, a1, b1, c1, a2, b2, c2, a3, b3, c3, d3, a4, b4, c4, a5, b5, c5, a6, b6, c6, a7, b7, c7, a8, b8, c8, a9, b9, c9, a10, b10, c10, a11, b11, c11, a12, a15, c15, a14, b14, c14, e1, e2, e3, e4, e5, e6, r1, r2, r3, r4, r5, r6, r7, r8, r9, r10, r11, r12, r13, r14, r15, r16, r17, hwk, hso, hrn, hnu, hpt, hrg, hbx, hor, hsa, hsb, hsc, hsn, hwz, hth, hla, hli, hlt, hpr, hby, htp, hrm, hhd, hlr, hK⟩ := hr
  simp only [f_G_rain, f_M_rain, e_among, j_bdS, j_letE, a2, b2]
  by_cases q1 : x1 < nI (s 2)
  · exact wp2_Lp q1 (wp2_Rp (by rw [if_neg (fun z => absurd z.1 (Int32.not_le.mpr q1))]) (wp2_mk rfl rfl (op_idle hs h0 rfl)))
  refine wp2_Ln q1 ?_
  by_cases q2 : x2 ≤ x1
  · refine wp2_Lp q2 ?_
    by_cases q3 : nI (s 2) ≤ x1 ∧ x1 ≤ 479
    · exact wp2_Rn (by rw [if_pos q3]; decide) (wp2_Rp q2 (wp2_mk rfl rfl (op_idle hs h0 rfl)))
    · exact wp2_Rp (by rw [if_neg q3]) (wp2_mk rfl rfl (op_idle hs h0 rfl))
  refine wp2_Ln q2 ?_
  by_cases q3 : x2 ≤ 480
  · refine wp2_Lp q3 ?_
    have l1 : nI (s 2) ≤ x1 := Int32.not_lt.mp q1
    have l2 : x1 < x2 := Int32.not_le.mp q2
    have l0 : 0 ≤ x1 := Int32.le_trans (nI_pos' (by omega)) l1
    obtain ⟨b, hb, rfl⟩ := nI_in2 (x := x2) 480 rfl (by omega) ⟨Int32.le_trans l0 (Int32.le_of_lt l2), q3⟩
    obtain ⟨a, ha, rfl⟩ := nI_in1 (x := x1) (by omega) ⟨l0, l2⟩
    refine wp2_Rn (by rw [if_pos ⟨l1, nI_le (b := 479) (by omega) (by decide)⟩]; decide) (wp2_Rn q2 (wp2_Rp q3 ?_))
    by_cases hn : s 4 < 20
    · obtain ⟨o1, o2, i1, i2⟩ := ok2 (J := J) (K := K) a4 b4 hn (by decide)
      refine wp2_Lp (by rw [a4]; exact nI_lt hn (by decide)) (wp2_Rn (by rw [b4]; exact nI_ne (b := 20) (by omega) (by omega) (by decide)) ?_)
      refine wp2_Rp o2 (wp2_Rp o2 (wp2_L (wpo_mono (l_skadd hF hb (by omega)) ?_)))
      rintro v J' ⟨rfl, g, hg, rfl⟩
      refine wp2_mk (w := K 215 7 + 1) (K := j_wr (j_wr (j_wr K 219 (j_ix (K 215 7)) (nI a)) 220 (j_ix (K 215 7)) (nI b)) 215 7 (K 215 7 + 1)) rfl rfl (op_fin (s' := p_up s 4 (s 4 + 1)) hs rfl (by rw [a4, b4]) (frJ_wr (by decide) (frJ_rw (by decide) (frJ_rf _))) (frK_wr (by decide) (frK_wr (by decide) (frK_wr (by decide) (frK_rf _)))) ⟨?_, ?_, h2⟩)
      · exact ⟨a0, b0, c0, a1, b1, c1, a2, b2, c2, a3, b3, c3, d3, (show J 38 0 + 1 = nI (s 4 + 1) by rw [a4, nI_1]), (show K 215 7 + 1 = nI (s 4 + 1) by rw [b4, nI_1]), (show s 4 + 1 ≤ 20 by omega), a5, b5, c5, a6, b6, c6, a7, b7, c7, a8, b8, c8, a9, b9, c9, a10, b10, c10, a11, b11, c11, a12, a15, c15, a14, b14, c14, e1, e2, e3, e4, e5, e6, r1, r2, r3, r4, r5, r6, r7, r8, r9, r10, r11, r12, r13, r14, r15, r16, r17, (by (try simp (disch := decide) only [vw_wr, vw_rw, vw_jvo]); exact hwk), hso, (by
          intro m hm
          show (g m = 0 ∨ g m = 1) ∧ (g m = 1 ↔ ∃ k, k < s 4 + 1 ∧ j_wr K 219 (j_ix (K 215 7)) (nI a) 219 k ≤ nI m ∧ nI m < j_wr (j_wr K 219 (j_ix (K 215 7)) (nI a)) 220 (j_ix (K 215 7)) (nI b) 220 k)
          obtain ⟨w1, w2⟩ := hrn m hm
          rw [i2, hg m]
          by_cases e : a ≤ m ∧ m < b
          · rw [if_pos e]
            refine ⟨Or.inr rfl, fun _ => ⟨s 4, by omega, ?_, ?_⟩, fun _ => rfl⟩
            · rw [j_wr_same]; exact nI_le e.1 (by omega)
            · rw [j_wr_same]; exact nI_lt e.2 (by omega)
          · rw [if_neg e]
            refine ⟨w1, fun z => ?_, fun z => ?_⟩
            · obtain ⟨k, y1, y2, y3⟩ := w2.mp z
              refine ⟨k, by omega, ?_, ?_⟩
              · rw [j_wr_idx _ _ _ (show k ≠ s 4 by omega)]; exact y2
              · rw [j_wr_idx _ _ _ (show k ≠ s 4 by omega)]; exact y3
            · obtain ⟨k, y1, y2, y3⟩ := z
              by_cases ek : k = s 4
              · subst ek
                rw [j_wr_same] at y2 y3
                exact absurd ⟨(nI_leI (by omega) (by omega)).mp y2, (nI_ltI (by omega) (by omega)).mp y3⟩ e
              · rw [j_wr_idx _ _ _ ek] at y2 y3
                exact w2.mpr ⟨k, by omega, y2, y3⟩), (by (try simp (disch := decide) only [vw_wr, vw_rw, vw_jvo]); exact hnu), (by (try simp (disch := decide) only [vw_wr, vw_rw, vw_jvo]); exact hpt), (by (try simp (disch := decide) only [vw_wr, vw_rw, vw_jvo]); exact hrg), (by (try simp (disch := decide) only [vw_wr, vw_rw, vw_jvo]); exact hbx), hor, (by (try simp (disch := decide) only [vw_wr, vw_rw, vw_jvo]); exact hsa), (by (try simp (disch := decide) only [vw_wr, vw_rw, vw_jvo]); exact hsb), (by (try simp (disch := decide) only [vw_wr, vw_rw, vw_jvo]); exact hsc), (by (try simp (disch := decide) only [vw_wr, vw_rw, vw_jvo]); exact hsn), hwz, hth, (by (try simp (disch := decide) only [vw_wr, vw_rw, vw_jvo]); exact hla), hli, hlt, hpr, hby, htp, hrm, (by (try simp (disch := decide) only [vw_wr, vw_rw, vw_jvo]); exact hhd), hlr, hK⟩
      · simp (disch := decide) only [vw_wr, vw_rw]; exact h1
    · have e16 : s 4 = 20 := by omega
      refine wp2_Ln (by rw [a4, e16]; decide) (wp2_Rp (by rw [b4, e16]; rfl) (wp2_mk rfl rfl (op_idle hs h0 rfl)))
  · refine wp2_Ln q3 ?_
    by_cases q4 : nI (s 2) ≤ x1 ∧ x1 ≤ 479
    · exact wp2_Rn (by rw [if_pos q4]; decide) (wp2_Rn q2 (wp2_Rn q3 (wp2_mk rfl rfl (op_idle hs h0 rfl))))
    · exact wp2_Rp (by rw [if_neg q4]) (wp2_mk rfl rfl (op_idle hs h0 rfl))
/-- the reference's ways are the class's -/
theorem l_far {F n a0 : Nat} {W Y : Nat → Nat → Int32} {K : j_M} (hF : 20000000 < F) (hn : n ≤ 16) (h0 : K 215 3 = nI n) (hwk : R_wk n W Y (K 218)) (ha : a0 < n) : j_wpo (f_M_findFar F (nI a0) K) (fun _ K' => ∃ g, K' = j_rw K 221 g ∧ ∀ b, b < n → g b = Y a0 b) := by
  obtain ⟨w, D, q1, q2, q3, q4, q5⟩ := hwk
  refine wpo_mono (p_findFar hF hn h0 q1 (fun x y hx hy => (q3 x y hx hy).2.1) ha) ?_
  rintro v K' ⟨ho, f, hf, hg, hp⟩
  refine ⟨K' 221, ?_, fun b hb => ?_⟩
  · funext c y
    unfold j_rw
    by_cases e : c = 221
    · rw [if_pos e, e]
    · rw [if_neg e]; exact ho c y (by omega)
  · rw [hf b hb, (q3 a0 b (by omega) (by omega)).2.2, p_Dist_unique q4 ha hg.1 hp hg.2 b hb]
theorem l_ways {n a b : Nat} {W Y : Nat → Nat → Int32} {k : Nat → Int32} (hn : n ≤ 16) (hwk : R_wk n W Y k) (ha : a < n) (hb : b < n) : ∃ d, d ≤ 1000000 ∧ Y a b = nI d ∧ (a ≠ b → 1 ≤ d) := by
  obtain ⟨w, D, q1, q2, q3, ⟨d1, d2, d3⟩, q5⟩ := hwk
  refine ⟨D a b, (d2 a b ha hb).1, (q3 a b (by omega) (by omega)).2.2, fun hab => ?_⟩
  rcases (d2 a b ha hb).2 with z | z
  · omega
  · have := z (fun x => if x = a then 0 else 1) (fun x y hx hy hw => by dsimp only; repeat' split <;> omega)
    simp [Ne.symm hab] at this
    omega
theorem e_gr1 {F n a : Nat} {J : j_M} (hn : n ≤ 16) (a0 : J 1 0 = nI n) (ha : a < n) : f_Gr_has F (nI a) J = some (1, J) := by
  rw [e_Gr_has, a0, if_pos ⟨nI_pos' (by omega), nI_lt ha (by omega)⟩]
theorem e_mb {F n a b : Nat} {J : j_M} (hn : n ≤ 16) (a0 : J 1 0 = nI n) (ha : a < n) (hb : b < n) : f_Gr_minutesBetween F (nI a) (nI b) J = some (J (22 + a) b, J) := by
  unfold f_Gr_minutesBetween
  rw [e_gr1 hn a0 ha, j_bdS, if_neg (by decide), e_gr1 hn a0 hb, j_bdS, if_neg (by decide), if_pos (j_ok_nI (show a < 16 by omega) (by decide)), if_pos (j_ok_nI (show b < 16 by omega) (by decide)), j_ix_nI (show a < 2 ^ 31 by omega), j_ix_nI (show b < 2 ^ 31 by omega)]
theorem e_io1 {F n a : Nat} {J : j_M} (hn : n ≤ 16) (a0 : J 1 0 = nI n) (ha : a < n) (h : J 3 a = 0) : f_Gr_isOpen F (nI a) J = some (1, J) := by
  unfold f_Gr_isOpen
  rw [e_gr1 hn a0 ha, j_bdS, if_neg (by decide), if_pos (j_ok_nI (show a < 16 by omega) (by decide)), j_ix_nI (show a < 2 ^ 31 by omega), if_pos h]
theorem e_io0 {F n a : Nat} {J : j_M} (hn : n ≤ 16) (a0 : J 1 0 = nI n) (ha : a < n) (h : ¬ J 3 a = 0) : f_Gr_isOpen F (nI a) J = some (0, J) := by
  unfold f_Gr_isOpen
  rw [e_gr1 hn a0 ha, j_bdS, if_neg (by decide), if_pos (j_ok_nI (show a < 16 by omega) (by decide)), j_ix_nI (show a < 2 ^ 31 by omega), if_neg h]
theorem op_way (F : Nat) (hF : 20000000 < F) (x1 x2 : Int32) : OP F (f_G_way F x1 x2) (f_M_way F x1 x2) := by
  intro s J K hs h
  have h0 := h
  obtain ⟨hr, h1, h2⟩ := h
  obtain ⟨a0, b0, c0, a1, b1, c1, a2, b2, c2, a3, b3, c3, d3, a4, b4, c4, a5, b5, c5, a6, b6, c6, a7, b7, c7, a8, b8, c8, a9, b9, c9, a10, b10, c10, a11, b11, c11, a12, a15, c15, a14, b14, c14, e1, e2, e3, e4, e5, e6, r1, r2, r3, r4, r5, r6, r7, r8, r9, r10, r11, r12, r13, r14, r15, r16, r17, hwk, hso, hrn, hnu, hpt, hrg, hbx, hor, hsa, hsb, hsc, hsn, hwz, hth, hla, hli, hlt, hpr, hby, htp, hrm, hhd, hlr, hK⟩ := hr
  simp only [f_G_way, f_M_way, e_Gr_has, e_isPl F x1 K b0 (by omega), e_isPl F x2 K b0 (by omega), j_bdS, j_letE, a0]
  refine wp2_ite Iff.rfl (fun q1 => wp2_mk rfl rfl (op_idle hs h0 rfl)) (fun q1 => ?_)
  refine wp2_ite Iff.rfl (fun q1 => wp2_mk rfl rfl (op_idle hs h0 rfl)) (fun q2 => ?_)
  obtain ⟨a, ha, rfl⟩ := nI_in1 (by omega) (b10n q1)
  obtain ⟨b, hb, rfl⟩ := nI_in1 (by omega) (b10n q2)
  have o1 : j_ok (nI a) 16 = true := j_ok_nI (by omega) (by decide)
  have o2 : j_ok (nI b) 16 = true := j_ok_nI (by omega) (by decide)
  rw [e_mb c0 a0 ha hb, j_bdS]
  refine wp2_R (wpo_mono (l_far hF c0 b0 hwk ha) ?_)
  rintro v K' ⟨g, rfl, hg⟩
  refine wp2_Rp o2 ?_
  rw [j_ix_nI (by omega), vw_at (lo := 22) (I := J) (show a < 16 by omega), rw_at, hg b hb]
  obtain ⟨d, hd, ed, -⟩ := l_ways c0 hwk ha hb
  rw [ed]
  have fin : ∀ v : Int32, OPQ F s J K v J v (j_rw K 221 g) := fun v => by
    refine op_fin (s' := s) hs rfl rfl (frJ_rf _) (frK_rw (by decide) (frK_rf _)) ⟨?_, h1, h2⟩
    exact ⟨a0, b0, c0, a1, b1, c1, a2, b2, c2, a3, b3, c3, d3, a4, b4, c4, a5, b5, c5, a6, b6, c6, a7, b7, c7, a8, b8, c8, a9, b9, c9, a10, b10, c10, a11, b11, c11, a12, a15, c15, a14, b14, c14, e1, e2, e3, e4, e5, e6, r1, r2, r3, r4, r5, r6, r7, r8, r9, r10, r11, r12, r13, r14, r15, r16, r17, (by (try simp (disch := decide) only [vw_wr, vw_rw, vw_jvo]); exact hwk), hso, hrn, (by (try simp (disch := decide) only [vw_wr, vw_rw, vw_jvo]); exact hnu), (by (try simp (disch := decide) only [vw_wr, vw_rw, vw_jvo]); exact hpt), (by (try simp (disch := decide) only [vw_wr, vw_rw, vw_jvo]); exact hrg), (by (try simp (disch := decide) only [vw_wr, vw_rw, vw_jvo]); exact hbx), hor, (by (try simp (disch := decide) only [vw_wr, vw_rw, vw_jvo]); exact hsa), (by (try simp (disch := decide) only [vw_wr, vw_rw, vw_jvo]); exact hsb), (by (try simp (disch := decide) only [vw_wr, vw_rw, vw_jvo]); exact hsc), (by (try simp (disch := decide) only [vw_wr, vw_rw, vw_jvo]); exact hsn), hwz, hth, (by (try simp (disch := decide) only [vw_wr, vw_rw, vw_jvo]); exact hla), hli, hlt, hpr, hby, htp, hrm, (by (try simp (disch := decide) only [vw_wr, vw_rw, vw_jvo]); exact hhd), hlr, hK⟩
  by_cases e : d = 1000000
  · exact wp2_Ln (by subst e; exact nI_nlt (b := 1000000) (by omega) (by omega)) (wp2_Rp (by rw [e]; rfl) (wp2_mk rfl rfl (fin _)))
  · exact wp2_Lp (nI_lt (b := 1000000) (by omega) (by omega)) (wp2_Rn (nI_ne (b := 1000000) e (by omega) (by omega)) (wp2_Rp o2 (wp2_mk rfl rfl (fin _))))
