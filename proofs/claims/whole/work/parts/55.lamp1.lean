/-! lamps: burns, dark, spent -/
theorem e_lit {F l : Nat} {J : j_M} (hl : l < 40) : f_La_isLit F (nI l) J = some (if J 150 2 = -1 then 0 else if J 152 l = -1 then 0 else 1, J) := by
  unfold f_La_isLit
  rw [if_pos (j_ok_nI hl (by decide)), j_ix_nI (by omega)]
  by_cases z : J 150 2 = -1
  · rw [if_pos z, if_pos z]
  · rw [if_neg z, if_neg z]
    by_cases y : J 152 l = -1
    · rw [if_pos y, if_pos y]
    · rw [if_neg y, if_neg y]
theorem d10 {d : Nat} (h : d < 100000) : (nI d + 9) / 10 = nI ((d + 9) / 10) := by
  rw [show (9 : Int32) = nI 9 from rfl, nI_add]
  exact pk_div (d := 10) (by omega) (by decide) (by decide)
theorem li_cases {nl mi l : Nat} {J K : j_M} (hli : R_li nl (J 152) (K 239)) (hlt : R_lt mi (J 150 2) (K 215 36) (K 215 37)) (hl : l < nl) (hmi : mi < 480) : ((if J 150 2 = -1 then (0 : Int32) else if J 152 l = -1 then 0 else 1) = 0 ∧ (K 215 36 = 0 ∨ (¬ K 215 36 = 0 ∧ 1000000 ≤ K 239 l))) ∨ ((if J 150 2 = -1 then (0 : Int32) else if J 152 l = -1 then 0 else 1) = 1 ∧ ¬ K 215 36 = 0 ∧ ¬ 1000000 ≤ K 239 l ∧ J 152 l = (K 239 l + 9) / 10 ∧ J 150 2 = K 215 37) := by
  rcases hlt with ⟨z1, z2⟩ | ⟨z1, t, ht, z2, z3⟩
  · exact Or.inl ⟨if_pos z2, Or.inl z1⟩
  · have n1 : ¬ J 150 2 = -1 := by rw [z2]; exact nI_nem (by omega)
    have n2 : ¬ K 215 36 = 0 := by rw [z1]; decide
    rcases hli l hl with ⟨y1, y2⟩ | ⟨d, hd, y1, y2⟩
    · exact Or.inl ⟨by rw [if_neg n1, if_pos y1], Or.inr ⟨n2, by rw [y2]; decide⟩⟩
    · refine Or.inr ⟨by rw [if_neg n1, if_neg (by rw [y2]; exact nI_nem (by omega))], n2, by rw [y1]; exact nI_ge (b := 1000000) (by omega) (by decide), by rw [y1, y2, d10 hd], by rw [z2, z3]⟩
theorem op_burns (F : Nat) (x1 : Int32) : OP F (f_G_burns F x1) (f_M_burns F x1) := by
  intro s J K hs h
  have h0 := h
  obtain ⟨hr, h1, h2⟩ := h
  obtain ⟨a0, b0, c0, a1, b1, c1, a2, b2, c2, a3, b3, c3, d3, a4, b4, c4, a5, b5, c5, a6, b6, c6, a7, b7, c7, a8, b8, c8, a9, b9, c9, a10, b10, c10, a11, b11, c11, a12, a15, c15, a14, b14, c14, e1, e2, e3, e4, e5, e6, r1, r2, r3, r4, r5, r6, r7, r8, r9, r10, r11, r12, r13, r14, r15, r16, r17, hwk, hso, hrn, hnu, hpt, hrg, hbx, hor, hsa, hsb, hsc, hsn, hwz, hth, hla, hli, hlt, hpr, hby, htp, hrm, hhd, hlr, hK⟩ := hr
  simp only [f_G_burns, f_M_burns, e_La_has, e_isLa F x1 K b5 (by omega), j_bdS, j_letE, a5]
  refine wp2_ite Iff.rfl (fun q1 => wp2_mk rfl rfl (op_idle hs h0 rfl)) (fun q1 => ?_)
  obtain ⟨l, hl, rfl⟩ := nI_in1 (by omega) (b10n q1)
  have ol : j_ok (nI l) 40 = true := j_ok_nI (by omega) (by decide)
  rw [e_lit (by omega), j_bdS]
  simp only [ol, if_true, j_ix_nI (show l < 2 ^ 31 by omega)]
  rcases li_cases hli hlt hl c2 with ⟨z, z2 | ⟨z2, z3⟩⟩ | ⟨z, z2, z3, z4, -⟩
  · exact wp2_Lp z (wp2_Rp z2 (wp2_mk rfl rfl (op_idle hs h0 rfl)))
  · exact wp2_Lp z (wp2_Rn z2 (wp2_Rp z3 (wp2_mk rfl rfl (op_idle hs h0 rfl))))
  · exact wp2_Ln (by rw [z]; decide) (wp2_Rn z2 (wp2_Rn z3 (wp2_Rn (by decide) (wp2_mk rfl rfl (op_idle hs h0 z4)))))
theorem op_dark (F : Nat) (hF : 20000000 < F) : OP F (f_G_dark F) (f_M_dark F) := by
  intro s J K hs h
  have h0 := h
  obtain ⟨hr, h1, h2⟩ := h
  obtain ⟨a0, b0, c0, a1, b1, c1, a2, b2, c2, a3, b3, c3, d3, a4, b4, c4, a5, b5, c5, a6, b6, c6, a7, b7, c7, a8, b8, c8, a9, b9, c9, a10, b10, c10, a11, b11, c11, a12, a15, c15, a14, b14, c14, e1, e2, e3, e4, e5, e6, r1, r2, r3, r4, r5, r6, r7, r8, r9, r10, r11, r12, r13, r14, r15, r16, r17, hwk, hso, hrn, hnu, hpt, hrg, hbx, hor, hsa, hsb, hsc, hsn, hwz, hth, hla, hli, hlt, hpr, hby, htp, hrm, hhd, hlr, hK⟩ := hr
  unfold f_G_dark
  rw [bd_id]
  unfold f_La_unlit f_La_unlit_4 f_M_dark f_M_dark_4
  refine j_it2 (Inv := fun k q r => ∃ i acc, i + k = s 5 ∧ q = (acc, nI i, J) ∧ r = (acc, nI i, K)) ?_ F (s 5) _ _ (by omega) ⟨0, 0, by omega, rfl, rfl⟩
  intro k q r g1 g2 hq hag
  obtain ⟨i, acc, hi, rfl, rfl⟩ := hq
  dsimp only
  unfold f_La_unlit_4b f_M_dark_4b
  rw [a5, b5]
  by_cases e : i = s 5
  · have c : nI (s 5) ≤ nI i := nI_le (by omega) (by omega)
    exact wp2_Lp c (wp2_Rp c (wp2_mk rfl rfl (op_idle hs h0 rfl)))
  · have c : ¬ nI (s 5) ≤ nI i := nI_ge (by omega) (by omega)
    have ol : j_ok (nI i) 40 = true := j_ok_nI (by omega) (by decide)
    refine wp2_Ln c (wp2_Rn c ?_)
    rw [e_lit (by omega), j_bdS]
    unfold f_La_unlit_26 f_M_dark_35 f_M_dark_36
    simp only [j_letE, ol, if_true, j_ix_nI (show i < 2 ^ 31 by omega), nI_1]
    rcases li_cases (l := i) hli hlt (by omega) c2 with ⟨z, z2 | ⟨z2, z3⟩⟩ | ⟨z, z2, z3, z4, -⟩
    · exact wp2_Lp z (wp2_Rp z2 (hag _ _ (k - 1) (by omega) ⟨i + 1, _, by omega, rfl, rfl⟩))
    · exact wp2_Lp z (wp2_Rn z2 (wp2_Rp z3 (hag _ _ (k - 1) (by omega) ⟨i + 1, _, by omega, rfl, rfl⟩)))
    · exact wp2_Ln (by rw [z]; decide) (wp2_Rn z2 (wp2_Rn z3 (hag _ _ (k - 1) (by omega) ⟨i + 1, _, by omega, rfl, rfl⟩)))
theorem op_spent (F : Nat) (hF : 20000000 < F) : OP F (f_G_spent F) (f_M_spent F) := by
  intro s J K hs h
  have h0 := h
  obtain ⟨hr, h1, h2⟩ := h
  obtain ⟨a0, b0, c0, a1, b1, c1, a2, b2, c2, a3, b3, c3, d3, a4, b4, c4, a5, b5, c5, a6, b6, c6, a7, b7, c7, a8, b8, c8, a9, b9, c9, a10, b10, c10, a11, b11, c11, a12, a15, c15, a14, b14, c14, e1, e2, e3, e4, e5, e6, r1, r2, r3, r4, r5, r6, r7, r8, r9, r10, r11, r12, r13, r14, r15, r16, r17, hwk, hso, hrn, hnu, hpt, hrg, hbx, hor, hsa, hsb, hsc, hsn, hwz, hth, hla, hli, hlt, hpr, hby, htp, hrm, hhd, hlr, hK⟩ := hr
  unfold f_G_spent
  rw [bd_id]
  unfold f_La_burntOut f_La_burntOut_4 f_M_spent f_M_spent_4
  rw [a2]
  refine j_it2 (Inv := fun k q r => ∃ i acc, i + k = s 5 ∧ q = (nI (s 2), acc, nI i, J) ∧ r = (acc, nI i, K)) ?_ F (s 5) _ _ (by omega) ⟨0, 0, by omega, rfl, rfl⟩
  intro k q r g1 g2 hq hag
  obtain ⟨i, acc, hi, rfl, rfl⟩ := hq
  dsimp only
  unfold f_La_burntOut_4b f_M_spent_4b
  rw [a5, b5, b2]
  by_cases e : i = s 5
  · have c : nI (s 5) ≤ nI i := nI_le (by omega) (by omega)
    exact wp2_Lp c (wp2_Rp c (wp2_mk rfl rfl (op_idle hs h0 rfl)))
  · have c : ¬ nI (s 5) ≤ nI i := nI_ge (by omega) (by omega)
    have ol : j_ok (nI i) 40 = true := j_ok_nI (by omega) (by decide)
    refine wp2_Ln c (wp2_Rn c ?_)
    rw [e_lit (by omega), j_bdS]
    unfold f_La_burntOut_40 f_La_burntOut_41 f_M_spent_53 f_M_spent_54
    simp only [j_letE, ol, if_true, j_ix_nI (show i < 2 ^ 31 by omega), nI_1]
    have nx : ∀ a, j_wp2 (g1 (nI (s 2), a, nI (i + 1), J)) (g2 (a, nI (i + 1), K)) (OPQ F s J K) := fun a => hag _ _ (k - 1) (by omega) ⟨i + 1, _, by omega, rfl, rfl⟩
    rcases li_cases (l := i) hli hlt (by omega) c2 with ⟨z, z2 | ⟨z2, z3⟩⟩ | ⟨z, z2, z3, z4, z5⟩
    · exact wp2_Lp z (wp2_Rp z2 (nx _))
    · exact wp2_Lp z (wp2_Rn z2 (wp2_Rp z3 (nx _)))
    · refine wp2_Ln (by rw [z]; decide) (wp2_Rn z2 (wp2_Rn z3 (wp2_ite (by rw [z5, r4]) (fun _ => nx _) (fun _ => nx _))))
