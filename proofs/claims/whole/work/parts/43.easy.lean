/-! calls without loops -/
theorem e_within (F : Nat) (x a b : Int32) (I : j_M) : f_G_within F x a b I = some (if a ≤ x ∧ x ≤ b then 1 else 0, I) := by
  unfold f_G_within
  by_cases h1 : x < a
  · rw [if_pos h1, if_neg (fun h => absurd h.1 (Int32.not_le.mpr h1))]
  · rw [if_neg h1]
    by_cases h2 : b < x
    · rw [if_pos h2, if_neg (fun h => absurd h.2 (Int32.not_le.mpr h2))]
    · rw [if_neg h2, if_pos ⟨Int32.not_lt.mp h1, Int32.not_lt.mp h2⟩]
theorem e_among (F : Nat) (x a b : Int32) (I : j_M) : f_M_among F x a b I = some (if a ≤ x ∧ x ≤ b then 1 else 0, I) := e_within F x a b I
theorem e_has0 {x y : Int32} {I : j_M} : (if x < 0 then some ((0 : Int32), I) else (if y ≤ x then some (0, I) else some (1, I))) = some (if 0 ≤ x ∧ x < y then 1 else 0, I) := by
  by_cases h1 : x < 0
  · rw [if_pos h1, if_neg (fun h => absurd h.1 (Int32.not_le.mpr h1))]
  · rw [if_neg h1]
    by_cases h2 : y ≤ x
    · rw [if_pos h2, if_neg (fun h => absurd h2 (Int32.not_le.mpr h.2))]
    · rw [if_neg h2, if_pos ⟨Int32.not_lt.mp h1, Int32.not_le.mp h2⟩]
theorem e_Gr_has (F : Nat) (x : Int32) (I : j_M) : f_Gr_has F x I = some (if 0 ≤ x ∧ x < I 1 0 then 1 else 0, I) := e_has0
theorem e_Gu_has (F : Nat) (x : Int32) (I : j_M) : f_Gu_has F x I = some (if 0 ≤ x ∧ x < I 41 0 then 1 else 0, I) := e_has0
theorem e_Bo_has (F : Nat) (x : Int32) (I : j_M) : f_Bo_has F x I = some (if 0 ≤ x ∧ x < I 194 0 then 1 else 0, I) := e_has0
theorem e_La_has (F : Nat) (x : Int32) (I : j_M) : f_La_has F x I = some (if 0 ≤ x ∧ x < I 150 0 then 1 else 0, I) := e_has0
theorem e_Pr_has (F : Nat) (x : Int32) (I : j_M) : f_Pr_has F x I = some (if 0 ≤ x ∧ x < I 202 0 then 1 else 0, I) := e_has0
theorem nI_pm {n : Nat} (hn : n < 2 ^ 31) (x : Int32) : x ≤ nI n - 1 ↔ x < nI n := by
  rw [Int32.le_iff_toInt_le, Int32.lt_iff_toInt_lt, nI_toInt hn, Int32.toInt_sub, nI_toInt hn]
  have : (1 : Int32).toInt = 1 := by decide
  rw [this, Int.bmod_eq_of_le (by omega) (by omega)]
  omega
theorem and1 {p : Prop} [Decidable p] {I : j_M} : (if (if p then (1 : Int32) else 0) &&& 1 = (if p then 1 else 0) then some ((if p then (1 : Int32) else 0), I) else none) = some (if p then 1 else 0, I) := by
  by_cases h : p <;> simp [h]
theorem e_isPl (F : Nat) (x : Int32) (I : j_M) {n : Nat} (h : I 215 3 = nI n) (hn : n < 2 ^ 31) : f_M_isPlace F x I = some (if 0 ≤ x ∧ x < nI n then 1 else 0, I) := by
  unfold f_M_isPlace
  rw [e_among]
  show (if _ then _ else _) = _
  rw [and1]
  simp only [h, nI_pm hn]
theorem e_isPa (F : Nat) (x : Int32) (I : j_M) {n : Nat} (h : I 215 12 = nI n) (hn : n < 2 ^ 31) : f_M_isParty F x I = some (if 0 ≤ x ∧ x < nI n then 1 else 0, I) := by
  unfold f_M_isParty
  rw [e_among]
  show (if _ then _ else _) = _
  rw [and1]
  simp only [h, nI_pm hn]
theorem e_isLa (F : Nat) (x : Int32) (I : j_M) {n : Nat} (h : I 215 28 = nI n) (hn : n < 2 ^ 31) : f_M_isLamp F x I = some (if 0 ≤ x ∧ x < nI n then 1 else 0, I) := by
  unfold f_M_isLamp
  rw [e_among]
  show (if _ then _ else _) = _
  rw [and1]
  simp only [h, nI_pm hn]
theorem e_isBo (F : Nat) (x : Int32) (I : j_M) {n : Nat} (h : I 215 40 = nI n) (hn : n < 2 ^ 31) : f_M_isBox F x I = some (if 0 ≤ x ∧ x < nI n then 1 else 0, I) := by
  unfold f_M_isBox
  rw [e_among]
  show (if _ then _ else _) = _
  rw [and1]
  simp only [h, nI_pm hn]
theorem e_isNi (F : Nat) (x : Int32) (I : j_M) : f_M_isNight F x I = some (if 0 ≤ x ∧ x ≤ 199 then 1 else 0, I) := by
  unfold f_M_isNight
  rw [e_among]
  show (if _ then _ else _) = _
  rw [and1]
theorem e_isTi (F : Nat) (x : Int32) (I : j_M) : f_M_isTicket F x I = some (if 0 ≤ x ∧ x ≤ 299 then 1 else 0, I) := by
  unfold f_M_isTicket
  rw [e_among]
  show (if _ then _ else _) = _
  rw [and1]
theorem b10 {p : Prop} [Decidable p] : ((if p then (1 : Int32) else 0) = 0) ↔ ¬ p := by
  by_cases h : p <;> simp [h]
theorem nI_in1 {x : Int32} {n : Nat} (hn : n < 2 ^ 31) (h : 0 ≤ x ∧ x < nI n) : ∃ i, i < n ∧ x = nI i := by
  obtain ⟨j, hj, e⟩ := nI_of (Int32.not_lt.mpr h.1)
  exact ⟨j, (nI_ltI hj hn).mp (e ▸ h.2), e⟩
theorem nI_in2 {x M : Int32} (n : Nat) (hM : M = nI n) (hn : n < 2 ^ 31) (h : 0 ≤ x ∧ x ≤ M) : ∃ i, i ≤ n ∧ x = nI i := by
  obtain ⟨j, hj, e⟩ := nI_of (Int32.not_lt.mpr h.1)
  exact ⟨j, (nI_leI hj hn).mp (hM ▸ e ▸ h.2), e⟩
theorem nI_m1 (n : Nat) : nI n + 1 - 1 = nI n := by
  rw [nI_1, nI_pred]
theorem row_eq {J K : j_M} {c d i j : Nat} {x y : Int32} (h : J c = K d) (hi : i = j) (hx : x = y) : j_wr J c i x c = j_wr K d j y d := by
  rw [j_wr_row, j_wr_row, h, hi, hx]
theorem p_bump {F : Nat} {s : Nat → Nat} {J K : j_M} (hs : s 13 < 512) (h : R1 F s J K) : R1 F (p_up s 13 (s 13 + 1)) J K := by
  obtain ⟨hr, h1, h2⟩ := h
  obtain ⟨a0, b0, c0, a1, b1, c1, a2, b2, c2, a3, b3, c3, d3, a4, b4, c4, a5, b5, c5, a6, b6, c6, a7, b7, c7, a8, b8, c8, a9, b9, c9, a10, b10, c10, a11, b11, c11, a12, a15, c15, a14, b14, c14, e1, e2, e3, e4, e5, e6, r1, r2, r3, r4, r5, r6, r7, r8, r9, r10, r11, r12, r13, r14, r15, r16, r17, hwk, hso, hrn, hnu, hpt, hrg, hbx, hor, hsa, hsb, hsc, hsn, hwz, hth, hla, hli, hlt, hpr, hby, htp, hrm, hhd, hlr, hK⟩ := hr
  refine ⟨?_, h1, h2⟩
  exact ⟨a0, b0, c0, a1, b1, c1, a2, b2, c2, a3, b3, c3, d3, a4, b4, c4, a5, b5, c5, a6, b6, c6, a7, b7, c7, a8, b8, c8, a9, b9, c9, a10, b10, c10, a11, b11, c11, a12, a15, c15, a14, b14, c14, e1, e2, e3, e4, e5, e6, r1, r2, r3, r4, r5, r6, r7, r8, r9, r10, r11, r12, r13, r14, r15, r16, r17, (by (try simp (disch := decide) only [vw_wr, vw_rw, vw_jvo]); exact hwk), hso, hrn, (by (try simp (disch := decide) only [vw_wr, vw_rw, vw_jvo]); exact hnu), (by (try simp (disch := decide) only [vw_wr, vw_rw, vw_jvo]); exact hpt), (by (try simp (disch := decide) only [vw_wr, vw_rw, vw_jvo]); exact hrg), (by (try simp (disch := decide) only [vw_wr, vw_rw, vw_jvo]); exact hbx), hor, (by (try simp (disch := decide) only [vw_wr, vw_rw, vw_jvo]); exact hsa), (by (try simp (disch := decide) only [vw_wr, vw_rw, vw_jvo]); exact hsb), (by (try simp (disch := decide) only [vw_wr, vw_rw, vw_jvo]); exact hsc), (show R_sn (s 1) (s 12) (s 13 + 1) _ _ by unfold R_sn at *; omega), hwz, hth, (by (try simp (disch := decide) only [vw_wr, vw_rw, vw_jvo]); exact hla), hli, hlt, hpr, hby, htp, hrm, (by (try simp (disch := decide) only [vw_wr, vw_rw, vw_jvo]); exact hhd), hlr, (show s 13 + 1 ≤ 512 by omega)⟩
theorem op_fin {F : Nat} {s s' : Nat → Nat} {J0 K0 J K : j_M} {v w : Int32} (hs : s 13 < 512) (h13 : s' 13 = s 13) (e : v = w) (f1 : frJ J0 J) (f2 : frK K0 K) (h : R1 F s' J K) : OPQ F s J0 K0 v J w K := by
  refine ⟨e, f1, f2, p_up s' 13 (s' 13 + 1), ?_, p_bump (by omega) h⟩
  show s' 13 + 1 = s 13 + 1
  rw [h13]
/-- a call that changes nothing -/
theorem op_idle {F : Nat} {s : Nat → Nat} {J K : j_M} {v w : Int32} (hs : s 13 < 512) (h : R1 F s J K) (e : v = w) : OPQ F s J K v J w K := op_fin hs rfl e (frJ_rf _) (frK_rf _) h
theorem op_ham (F : Nat) (x1 : Int32) : OP F (f_G_ham F x1) (f_M_ham F x1) := by
  intro s J K hs h
  have h0 := h
  obtain ⟨hr, h1, h2⟩ := h
  obtain ⟨a0, b0, c0, a1, b1, c1, a2, b2, c2, a3, b3, c3, d3, a4, b4, c4, a5, b5, c5, a6, b6, c6, a7, b7, c7, a8, b8, c8, a9, b9, c9, a10, b10, c10, a11, b11, c11, a12, a15, c15, a14, b14, c14, e1, e2, e3, e4, e5, e6, r1, r2, r3, r4, r5, r6, r7, r8, r9, r10, r11, r12, r13, r14, r15, r16, r17, hwk, hso, hrn, hnu, hpt, hrg, hbx, hor, hsa, hsb, hsc, hsn, hwz, hth, hla, hli, hlt, hpr, hby, htp, hrm, hhd, hlr, hK⟩ := hr
  simp only [f_G_ham, f_M_ham, e_within, e_among, j_bdS, j_letE, b10]
  refine wp2_ite Iff.rfl (fun q1 => wp2_mk rfl rfl (op_idle hs h0 rfl)) (fun q1 => ?_)
  refine wp2_ite (by rw [e4]) (fun q2 => ?_) (fun q2 => wp2_mk rfl rfl (op_idle hs h0 rfl))
  refine wp2_mk rfl rfl (op_fin (s' := s) hs rfl ?_ (frJ_wr (by decide) (frJ_rf _)) (frK_wr (by decide) (frK_rf _)) ⟨?_, ?_, h2⟩)
  · show J 198 0 + x1 = K 215 43 + x1; rw [e4]
  · exact ⟨a0, b0, c0, a1, b1, c1, a2, b2, c2, a3, b3, c3, d3, a4, b4, c4, a5, b5, c5, a6, b6, c6, a7, b7, c7, a8, b8, c8, a9, b9, c9, a10, b10, c10, a11, b11, c11, a12, a15, c15, a14, b14, c14, e1, e2, e3, (show J 198 0 + x1 = K 215 43 + x1 by rw [e4]), e5, e6, r1, r2, r3, r4, r5, r6, r7, r8, r9, r10, r11, r12, r13, r14, r15, r16, r17, (by (try simp (disch := decide) only [vw_wr, vw_rw, vw_jvo]); exact hwk), hso, hrn, (by (try simp (disch := decide) only [vw_wr, vw_rw, vw_jvo]); exact hnu), (by (try simp (disch := decide) only [vw_wr, vw_rw, vw_jvo]); exact hpt), (by (try simp (disch := decide) only [vw_wr, vw_rw, vw_jvo]); exact hrg), (by (try simp (disch := decide) only [vw_wr, vw_rw, vw_jvo]); exact hbx), hor, (by (try simp (disch := decide) only [vw_wr, vw_rw, vw_jvo]); exact hsa), (by (try simp (disch := decide) only [vw_wr, vw_rw, vw_jvo]); exact hsb), (by (try simp (disch := decide) only [vw_wr, vw_rw, vw_jvo]); exact hsc), (by (try simp (disch := decide) only [vw_wr, vw_rw, vw_jvo]); exact hsn), hwz, hth, (by (try simp (disch := decide) only [vw_wr, vw_rw, vw_jvo]); exact hla), hli, hlt, hpr, hby, htp, hrm, (by (try simp (disch := decide) only [vw_wr, vw_rw, vw_jvo]); exact hhd), hlr, hK⟩
  · rw [vw_wr (by decide)]; exact h1
theorem R_wk_add {n : Nat} {W Y : Nat → Nat → Int32} {k : Nat → Int32} (h : R_wk n W Y k) : R_wk (n + 1) W Y k := by
  obtain ⟨w, D, q1, q2, q3, ⟨d1, d2, d3⟩, q5⟩ := h
  refine ⟨w, D, q1, fun a b hab => q2 a b (by omega), q3, ⟨fun a ha => ?_, fun a b ha hb => ?_, fun a b c ha hb hc hw => ?_⟩, fun a b hab => q5 a b (by omega)⟩
  · by_cases e : a < n
    · exact d1 a e
    · rw [q5 a a (by omega)]; simp [p_dir0]
  · by_cases e : n ≤ a ∨ n ≤ b
    · rw [q5 a b e]
      unfold p_dir0
      by_cases e2 : a = b
      · subst e2; rw [if_pos rfl]; exact ⟨by omega, Or.inr (p_Rch.rf a)⟩
      · rw [if_neg e2, if_pos (q2 a b e)]; exact ⟨by omega, Or.inl rfl⟩
    · refine ⟨(d2 a b (by omega) (by omega)).1, ?_⟩
      rcases (d2 a b (by omega) (by omega)).2 with z | z
      · exact Or.inl z
      · exact Or.inr (fun f hf => z f (fun x y hx hy => hf x y (by omega) (by omega)))
  · have hcb : ¬ (n ≤ c ∨ n ≤ b) := fun z => hw (q2 c b z)
    by_cases e : a < n
    · exact d3 a b c e (by omega) (by omega) hw
    · rw [q5 a b (by omega), q5 a c (by omega)]
      unfold p_dir0
      rw [if_neg (by omega), if_pos (q2 a b (by omega)), if_neg (by omega), if_pos (q2 a c (by omega))]
      omega
theorem op_place (F : Nat) (x1 x2 : Int32) : OP F (f_G_place F x1 x2) (f_M_place F x1 x2) := by
  intro s J K hs h
  have h0 := h
  obtain ⟨hr, h1, h2⟩ := h
  obtain ⟨a0, b0, c0, a1, b1, c1, a2, b2, c2, a3, b3, c3, d3, a4, b4, c4, a5, b5, c5, a6, b6, c6, a7, b7, c7, a8, b8, c8, a9, b9, c9, a10, b10, c10, a11, b11, c11, a12, a15, c15, a14, b14, c14, e1, e2, e3, e4, e5, e6, r1, r2, r3, r4, r5, r6, r7, r8, r9, r10, r11, r12, r13, r14, r15, r16, r17, hwk, hso, hrn, hnu, hpt, hrg, hbx, hor, hsa, hsb, hsc, hsn, hwz, hth, hla, hli, hlt, hpr, hby, htp, hrm, hhd, hlr, hK⟩ := hr
  simp only [f_G_place, f_M_place, e_within, e_among, j_bdS, j_letE, b10]
  refine wp2_ite Iff.rfl (fun q1 => wp2_mk rfl rfl (op_idle hs h0 rfl)) (fun q0 => ?_)
  refine wp2_ite Iff.rfl (fun q1 => wp2_mk rfl rfl (op_idle hs h0 rfl)) (fun q1 => ?_)
  have q00 : 1 ≤ x1 ∧ x1 ≤ 999 := Decidable.of_not_not (fun z => q0 (if_neg z))
  obtain ⟨kr, hkr, ekr⟩ := nI_in2 (x := x1) 999 rfl (by decide) ⟨Int32.le_trans (by decide) q00.1, q00.2⟩
  by_cases hn : s 0 < 16
  · refine wp2_Lp (by rw [a0]; exact nI_lt hn (by decide)) (wp2_Rn (by rw [b0]; exact fun z => absurd ((nI_eq (b := 16) (by omega) (by decide)).mp z) (by omega)) ?_)
    have ok1 : j_ok (J 1 0) 16 = true := by rw [a0]; exact j_ok_nI hn (by decide)
    have ok2 : j_ok (K 215 3) 16 = true := by rw [b0]; exact j_ok_nI hn (by decide)
    have hx : j_ix (J 1 0) = j_ix (K 215 3) := by rw [a0, b0]
    have ix : j_ix (J 1 0) = s 0 := by rw [a0, j_ix_nI (by omega)]
    have key : ∀ y : Int32, OPQ F s J K (nI (s 0)) (j_wr (j_wr (j_wr J 2 (j_ix (J 1 0)) x1) 3 (j_ix (J 1 0)) (y &&& 1)) 1 0 (J 1 0 + 1)) (nI (s 0)) (j_wr (j_wr (j_wr K 216 (j_ix (K 215 3)) x1) 217 (j_ix (K 215 3)) (y &&& 1)) 215 3 (K 215 3 + 1)) := by
      intro y
      refine op_fin (s' := p_up s 0 (s 0 + 1)) hs rfl rfl (frJ_wr (by decide) (frJ_wr (by decide) (frJ_wr (by decide) (frJ_rf _)))) (frK_wr (by decide) (frK_wr (by decide) (frK_wr (by decide) (frK_rf _)))) ⟨?_, ?_, h2⟩
      · exact ⟨(show J 1 0 + 1 = nI (s 0 + 1) by rw [a0, nI_1]), (show K 215 3 + 1 = nI (s 0 + 1) by rw [b0, nI_1]), (show s 0 + 1 ≤ 16 by omega), a1, b1, c1, a2, b2, c2, a3, b3, c3, d3, a4, b4, c4, a5, b5, c5, a6, b6, c6, a7, b7, c7, a8, b8, c8, a9, b9, c9, a10, b10, c10, a11, b11, c11, a12, a15, c15, a14, b14, c14, e1, e2, e3, e4, e5, e6, (row_eq r1 hx rfl), (row_eq (J := j_wr J 2 (j_ix (J 1 0)) x1) (K := j_wr K 216 (j_ix (K 215 3)) x1) r2 hx rfl), r3, r4, r5, r6, r7, r8, r9, r10, r11, r12, r13, r14, r15, r16, r17, (by simp (disch := decide) only [vw_wr]; exact R_wk_add hwk), hso, hrn, (by (try simp (disch := decide) only [vw_wr, vw_rw, vw_jvo]); exact hnu), (by (try simp (disch := decide) only [vw_wr, vw_rw, vw_jvo]); exact hpt), (by simp (disch := decide) only [vw_wr]; exact fun i hi => ⟨(hrg i hi).1, (hrg i hi).2.1, fun z => (by obtain ⟨q, y1, y2⟩ := (hrg i hi).2.2.1 z; exact ⟨q, Nat.lt_succ_of_lt y1, y2⟩), (hrg i hi).2.2.2⟩), (by (try simp (disch := decide) only [vw_wr, vw_rw, vw_jvo]); exact hbx), hor, (by (try simp (disch := decide) only [vw_wr, vw_rw, vw_jvo]); exact hsa), (by (try simp (disch := decide) only [vw_wr, vw_rw, vw_jvo]); exact hsb), (by (try simp (disch := decide) only [vw_wr, vw_rw, vw_jvo]); exact hsc), (by
          simp (disch := decide) only [vw_wr]
          show s 12 + p_sum (p_phi (vw 43 100 J) (j_wr (j_wr J 2 (j_ix (J 1 0)) x1) 3 (j_ix (J 1 0)) (y &&& 1) 3)) (s 1) ≤ 2 * s 13
          rw [p_sum_congr (g := p_phi (vw 43 100 J) (J 3))]
          · exact hsn
          · intro p hp
            unfold p_phi
            by_cases z : vw 43 100 J p 3 = 2
            · rw [if_pos z, if_pos z]
            · obtain ⟨q, y1, y2⟩ := (hrg p hp).2.2.1 z
              rw [if_neg z, if_neg z, y2, j_ix_nI (by omega), j_wr_idx _ _ _ (show q ≠ j_ix (J 1 0) by omega), j_wr_cell J _ _ (by decide)]), hwz, (fun k hk => (by obtain ⟨m, q, y1, y2, y3, y4⟩ := hth k hk; exact ⟨m, q, y1, y2, Nat.lt_succ_of_lt y3, y4⟩)), (by (try simp (disch := decide) only [vw_wr, vw_rw, vw_jvo]); exact hla), hli, hlt, hpr, hby, htp, (by
          show R_rm (s 0 + 1) (j_wr J 2 (j_ix (J 1 0)) x1 2)
          rw [ix, j_wr_row]
          intro q hq
          unfold upd
          by_cases e : q = s 0
          · exact ⟨kr, hkr, by rw [if_pos e]; exact ekr⟩
          · rw [if_neg e]; exact hrm q (by omega)), (by (try simp (disch := decide) only [vw_wr, vw_rw, vw_jvo]); exact hhd), hlr, hK⟩
      · simp (disch := decide) only [vw_wr]; exact h1
    have e1 : J 1 0 + 1 - 1 = nI (s 0) := by rw [a0, nI_m1]
    have e2 : K 215 3 + 1 - 1 = nI (s 0) := by rw [b0, nI_m1]
    have fin : ∀ y : Int32, j_wp2 (f_G_place_52 F x1 y J) (f_M_place_62 F (K 215 3) y (j_wr K 216 (j_ix (K 215 3)) x1)) (OPQ F s J K) := by
      intro y
      have k := key y
      rw [← e1] at k
      unfold f_G_place_52 f_M_place_62 f_Gr_add
      rw [if_pos ok1]
      simp only [j_letE]
      refine wp2_Rp ok2 (wp2_mk (v := J 1 0 + 1 - 1) (J := (j_wr (j_wr (j_wr J 2 (j_ix (J 1 0)) x1) 3 (j_ix (J 1 0)) (y &&& 1)) 1 0 (J 1 0 + 1))) (w := K 215 3 + 1 - 1) (K := (j_wr (j_wr (j_wr K 216 (j_ix (K 215 3)) x1) 217 (j_ix (K 215 3)) (y &&& 1)) 215 3 (K 215 3 + 1))) ?_ rfl ?_)
      · rw [if_pos (show j_ok (j_wr J 2 (j_ix (J 1 0)) x1 1 0) 16 = true from ok1)]; rfl
      · rw [e2]; rw [e1] at k ⊢; exact k
    exact wp2_Rp ok2 (wp2_ite Iff.rfl (fun _ => fin 1) (fun _ => fin 0))
  · have e16 : s 0 = 16 := by omega
    refine wp2_Ln (by rw [a0, e16]; decide) (wp2_Rp (by rw [b0, e16]; rfl) (wp2_mk rfl rfl (op_idle hs h0 rfl)))
