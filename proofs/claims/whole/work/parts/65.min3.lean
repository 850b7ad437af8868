/-! minutes: waiters -/
theorem j_wp2_cast {α β : Type} {o1 o1' : Option (α × j_M)} {o2 o2' : Option (β × j_M)} {Q : α → j_M → β → j_M → Prop} (h : j_wp2 o1 o2 Q) (e1 : o1 = o1') (e2 : o2 = o2') : j_wp2 o1' o2' Q := by rw [← e1, ← e2]; exact h
def sh1 (A : Nat → Int32) (i t : Nat) : Int32 := if t < i then A (t + 1) else A t
def shb (A : Nat → Int32) (i t : Nat) : Int32 := if t < i then A (t + 1) &&& 1 else A t
theorem sh_0 (A : Nat → Int32) : sh1 A 0 = A := by funext t; exact if_neg (Nat.not_lt_zero t)
theorem shb_0 (A : Nat → Int32) : shb A 0 = A := by funext t; exact if_neg (Nat.not_lt_zero t)
theorem sh_st (A : Nat → Int32) (i : Nat) : upd (sh1 A i) i (sh1 A i (i + 1)) = sh1 A (i + 1) := by
  funext t
  unfold upd sh1
  by_cases e : t = i
  · rw [if_pos e, if_neg (by omega), if_pos (by omega), e]
  · rw [if_neg e]
    by_cases c : t < i
    · rw [if_pos c, if_pos (by omega)]
    · rw [if_neg c, if_neg (by omega)]
theorem shb_st (A : Nat → Int32) (i : Nat) : upd (shb A i) i (shb A i (i + 1) &&& 1) = shb A (i + 1) := by
  funext t
  unfold upd shb
  by_cases e : t = i
  · rw [if_pos e, if_neg (by omega), if_pos (by omega), e]
  · rw [if_neg e]
    by_cases c : t < i
    · rw [if_pos c, if_pos (by omega)]
    · rw [if_neg c, if_neg (by omega)]
abbrev j_rmv (J : j_M) (no : Nat) : j_M := j_rw (j_rw (j_rw (j_wr J 198 4 (nI no)) 199 (sh1 (J 199) no)) 200 (sh1 (J 200) no)) 201 (shb (J 201) no)
abbrev k_rmv (K : j_M) (no : Nat) : j_M := j_rw (j_rw (j_rw K 242 (sh1 (K 242) no)) 243 (sh1 (K 243) no)) 244 (shb (K 244) no)
theorem e_rem {F no : Nat} {J : j_M} (hF : 20000000 < F) (a8 : J 198 4 = nI (no + 1)) (c8 : no + 1 ≤ 60) : f_Ki_removeFirst F J = some (0, j_rmv J no) := by
  unfold f_Ki_removeFirst f_Ki_removeFirst_12
  rw [a8, nI_pred, j_letE]
  have h0 : ((0 : Int32), j_wr J 198 4 (nI no)) = (nI 0, j_rw (j_rw (j_rw (j_wr J 198 4 (nI no)) 199 (sh1 (J 199) 0)) 200 (sh1 (J 200) 0)) 201 (shb (J 201) 0)) := by
    rw [sh_0, sh_0, shb_0]
    have e1 : j_rw (j_wr J 198 4 (nI no)) 199 (J 199) = j_wr J 198 4 (nI no) := rw_self (j_wr J 198 4 (nI no)) 199
    rw [e1]
    have e2 : j_rw (j_wr J 198 4 (nI no)) 200 (J 200) = j_wr J 198 4 (nI no) := rw_self (j_wr J 198 4 (nI no)) 200
    rw [e2]
    have e3 : j_rw (j_wr J 198 4 (nI no)) 201 (J 201) = j_wr J 198 4 (nI no) := rw_self (j_wr J 198 4 (nI no)) 201
    rw [e3]; rfl
  rw [h0]
  refine j_it_run (r := some (0, j_rmv J no)) (fun i => (nI i, j_rw (j_rw (j_rw (j_wr J 198 4 (nI no)) 199 (sh1 (J 199) i)) 200 (sh1 (J 200) i)) 201 (shb (J 201) i))) no (fun i hi again => ?_) (fun again => ?_) F 0 (by omega) (by omega)
  · dsimp only
    unfold f_Ki_removeFirst_12b
    have e1 : (j_rw (j_rw (j_rw (j_wr J 198 4 (nI no)) 199 (sh1 (J 199) i)) 200 (sh1 (J 200) i)) 201 (shb (J 201) i)) 198 4 = nI no := rfl
    rw [e1, if_neg (nI_ge hi (by omega)), nI_1, e_move (by omega) (by omega), j_bdS, sh_st, sh_st, shb_st, j_letE]
  · dsimp only
    unfold f_Ki_removeFirst_12b
    have e1 : (j_rw (j_rw (j_rw (j_wr J 198 4 (nI no)) 199 (sh1 (J 199) no)) 200 (sh1 (J 200) no)) 201 (shb (J 201) no)) 198 4 = nI no := rfl
    rw [e1, if_pos (nI_le (Nat.le_refl _) (by omega))]
theorem e_rem2 {F no : Nat} {K : j_M} {x1 x2 x3 x4 x5 : Int32} {kb25 : Int32 → Int32 → j_M → Option (Int32 × j_M)} (hF : 20000000 < F) (b8 : K 215 46 = nI (no + 1)) (c8 : no + 1 ≤ 60) : f_M_serve_56 F kb25 x1 x2 x3 x4 x5 1 K = f_M_serve_56b F (fun _ _ _ _ _ _ _ => none) kb25 x1 x2 x3 x4 x5 (nI (no + 1)) (k_rmv K no) := by
  unfold f_M_serve_56
  have h0 : (x1, x2, x3, x4, x5, (1 : Int32), K) = (x1, x2, x3, x4, x5, nI (0 + 1), j_rw (j_rw (j_rw K 242 (sh1 (K 242) 0)) 243 (sh1 (K 243) 0)) 244 (shb (K 244) 0)) := by
    rw [sh_0, sh_0, shb_0, rw_self, rw_self, rw_self]; rfl
  rw [h0]
  refine j_it_run (r := f_M_serve_56b F (fun _ _ _ _ _ _ _ => none) kb25 x1 x2 x3 x4 x5 (nI (no + 1)) (k_rmv K no)) (fun i => (x1, x2, x3, x4, x5, nI (i + 1), j_rw (j_rw (j_rw K 242 (sh1 (K 242) i)) 243 (sh1 (K 243) i)) 244 (shb (K 244) i))) no (fun i hi again => ?_) (fun again => ?_) F 0 (by omega) (by omega)
  · dsimp only
    unfold f_M_serve_56b
    have e1 : (j_rw (j_rw (j_rw K 242 (sh1 (K 242) i)) 243 (sh1 (K 243) i)) 244 (shb (K 244) i)) 215 46 = nI (no + 1) := b8
    rw [e1, if_neg (nI_ge (show i + 1 < no + 1 by omega) (by omega)), nI_pred, e_shift (by omega) (by omega), j_bdS, sh_st, sh_st, shb_st, j_letE, nI_1]
  · dsimp only
    unfold f_M_serve_56b
    have e1 : (k_rmv K no) 215 46 = nI (no + 1) := b8
    have c : (k_rmv K no) 215 46 ≤ nI (no + 1) := by rw [e1]; exact nI_le (Nat.le_refl _) (by omega)
    exact (if_pos c).trans (if_pos c).symm
theorem rr_rmv {F no : Nat} {s : Nat → Nat} {J K : j_M} (hr : RR F s J K) (h8 : s 8 = no + 1) : RR F (p_up s 8 no) (j_rmv J no) (j_wr (k_rmv K no) 215 46 (nI no)) := by
  obtain ⟨a0, b0, c0, a1, b1, c1, a2, b2, c2, a3, b3, c3, d3, a4, b4, c4, a5, b5, c5, a6, b6, c6, a7, b7, c7, a8, b8, c8, a9, b9, c9, a10, b10, c10, a11, b11, c11, a12, a15, c15, a14, b14, c14, e1, e2, e3, e4, e5, e6, r1, r2, r3, r4, r5, r6, r7, r8, r9, r10, r11, r12, r13, r14, r15, r16, r17, hwk, hso, hrn, hnu, hpt, hrg, hbx, hor, hsa, hsb, hsc, hsn, hwz, hth, hla, hli, hlt, hpr, hby, htp, hrm, hhd, hlr, hK⟩ := hr
  exact ⟨a0, b0, c0, a1, b1, c1, a2, b2, c2, a3, b3, c3, d3, a4, b4, c4, a5, b5, c5, a6, b6, c6, a7, b7, c7, rfl, rfl, (show no ≤ 60 by omega), a9, b9, c9, a10, b10, c10, a11, b11, c11, a12, a15, c15, a14, b14, c14, e1, e2, e3, e4, e5, e6, r1, r2, r3, r4, r5, r6, (show sh1 (J 199) no = sh1 (K 242) no by rw [r7]), (show sh1 (J 200) no = sh1 (K 243) no by rw [r8]), (show shb (J 201) no = shb (K 244) no by rw [r9]), r10, r11, r12, r13, r14, r15, r16, r17, (by (try simp (disch := decide) only [vw_wr, vw_rw, vw_jvo]); exact hwk), hso, hrn, (by (try simp (disch := decide) only [vw_wr, vw_rw, vw_jvo]); exact hnu), (by (try simp (disch := decide) only [vw_wr, vw_rw, vw_jvo]); exact hpt), (by (try simp (disch := decide) only [vw_wr, vw_rw, vw_jvo]); exact hrg), (by (try simp (disch := decide) only [vw_wr, vw_rw, vw_jvo]); exact hbx), (show R_or (s 1) no (sh1 (J 199) no) from fun k hk => (by
    unfold sh1
    rw [if_pos hk]
    exact hor (k + 1) (by omega))), (by (try simp (disch := decide) only [vw_wr, vw_rw, vw_jvo]); exact hsa), (by (try simp (disch := decide) only [vw_wr, vw_rw, vw_jvo]); exact hsb), (by (try simp (disch := decide) only [vw_wr, vw_rw, vw_jvo]); exact hsc), (by (try simp (disch := decide) only [vw_wr, vw_rw, vw_jvo]); exact hsn), hwz, hth, (by (try simp (disch := decide) only [vw_wr, vw_rw, vw_jvo]); exact hla), hli, hlt, hpr, hby, htp, hrm, (by (try simp (disch := decide) only [vw_wr, vw_rw, vw_jvo]); exact hhd), hlr, hK⟩
theorem rr_app {F no p : Nat} {s : Nat → Nat} {J K : j_M} {x y : Int32} (hr : RR F s J K) (h8 : s 8 = no) (hn : no < 60) (hp : p < s 1) : RR F (p_up s 8 (no + 1)) (j_wr (j_wr (j_wr (j_wr J 199 no (nI p)) 200 no x) 201 no y) 198 4 (nI (no + 1))) (j_wr (j_wr (j_wr (j_wr K 242 no (nI p)) 243 no x) 244 no y) 215 46 (nI (no + 1))) := by
  obtain ⟨a0, b0, c0, a1, b1, c1, a2, b2, c2, a3, b3, c3, d3, a4, b4, c4, a5, b5, c5, a6, b6, c6, a7, b7, c7, a8, b8, c8, a9, b9, c9, a10, b10, c10, a11, b11, c11, a12, a15, c15, a14, b14, c14, e1, e2, e3, e4, e5, e6, r1, r2, r3, r4, r5, r6, r7, r8, r9, r10, r11, r12, r13, r14, r15, r16, r17, hwk, hso, hrn, hnu, hpt, hrg, hbx, hor, hsa, hsb, hsc, hsn, hwz, hth, hla, hli, hlt, hpr, hby, htp, hrm, hhd, hlr, hK⟩ := hr
  exact ⟨a0, b0, c0, a1, b1, c1, a2, b2, c2, a3, b3, c3, d3, a4, b4, c4, a5, b5, c5, a6, b6, c6, a7, b7, c7, rfl, rfl, (show no + 1 ≤ 60 by omega), a9, b9, c9, a10, b10, c10, a11, b11, c11, a12, a15, c15, a14, b14, c14, e1, e2, e3, e4, e5, e6, r1, r2, r3, r4, r5, r6, (row_eq r7 rfl rfl), (row_eq (J := j_wr J 199 no (nI p)) (K := j_wr K 242 no (nI p)) r8 rfl rfl), (row_eq (J := j_wr (j_wr J 199 no (nI p)) 200 no x) (K := j_wr (j_wr K 242 no (nI p)) 243 no x) r9 rfl rfl), r10, r11, r12, r13, r14, r15, r16, r17, (by (try simp (disch := decide) only [vw_wr, vw_rw, vw_jvo]); exact hwk), hso, hrn, (by (try simp (disch := decide) only [vw_wr, vw_rw, vw_jvo]); exact hnu), (by (try simp (disch := decide) only [vw_wr, vw_rw, vw_jvo]); exact hpt), (by (try simp (disch := decide) only [vw_wr, vw_rw, vw_jvo]); exact hrg), (by (try simp (disch := decide) only [vw_wr, vw_rw, vw_jvo]); exact hbx), (show R_or (s 1) (no + 1) (j_wr J 199 no (nI p) 199) from fun k hk => (by
    by_cases e : k = no
    · subst e; rw [j_wr_same]; exact ⟨p, hp, rfl⟩
    · rw [j_wr_idx _ _ _ e]; exact hor k (by omega))), (by (try simp (disch := decide) only [vw_wr, vw_rw, vw_jvo]); exact hsa), (by (try simp (disch := decide) only [vw_wr, vw_rw, vw_jvo]); exact hsb), (by (try simp (disch := decide) only [vw_wr, vw_rw, vw_jvo]); exact hsc), (by (try simp (disch := decide) only [vw_wr, vw_rw, vw_jvo]); exact hsn), hwz, hth, (by (try simp (disch := decide) only [vw_wr, vw_rw, vw_jvo]); exact hla), hli, hlt, hpr, hby, htp, hrm, (by (try simp (disch := decide) only [vw_wr, vw_rw, vw_jvo]); exact hhd), hlr, hK⟩
theorem rr_srv {F p : Nat} {s : Nat → Nat} {J K : j_M} {x y v : Int32} (hr : RR F s J K) (hp : p < s 1) : RR F s (jvw (j_wr (j_wr (j_wr J 198 0 (J 198 0 - y)) 198 3 (J 198 3 + x)) 0 14 (J 0 14 + v)) 43 100 (vup (vup (vw 43 100 J) p 9 (K 231 p + x)) p 7 (K 229 p + v))) (j_wr (j_wr (j_wr (j_wr (j_wr K 215 43 (K 215 43 - y)) 231 p (K 231 p + x)) 215 27 (K 215 27 + x)) 229 p (K 229 p + v)) 215 26 (K 215 26 + v)) := by
  obtain ⟨a0, b0, c0, a1, b1, c1, a2, b2, c2, a3, b3, c3, d3, a4, b4, c4, a5, b5, c5, a6, b6, c6, a7, b7, c7, a8, b8, c8, a9, b9, c9, a10, b10, c10, a11, b11, c11, a12, a15, c15, a14, b14, c14, e1, e2, e3, e4, e5, e6, r1, r2, r3, r4, r5, r6, r7, r8, r9, r10, r11, r12, r13, r14, r15, r16, r17, hwk, hso, hrn, hnu, hpt, hrg, hbx, hor, hsa, hsb, hsc, hsn, hwz, hth, hla, hli, hlt, hpr, hby, htp, hrm, hhd, hlr, hK⟩ := hr
  have p100 : p < 100 := by omega
  have hv0 : v0 100 (vup (vup (vw 43 100 J) p 9 (K 231 p + x)) p 7 (K 229 p + v)) := v0_up (v0_up (v0_vw _ _ _) p100) p100
  exact ⟨a0, b0, c0, a1, b1, c1, a2, b2, c2, a3, b3, c3, d3, a4, b4, c4, a5, b5, c5, a6, b6, c6, a7, b7, c7, a8, b8, c8, a9, b9, c9, a10, b10, c10, a11, b11, c11, a12, a15, c15, a14, b14, c14, e1, e2, (show J 0 14 + v = K 215 26 + v by rw [e3]), (show J 198 0 - y = K 215 43 - y by rw [e4]), e5, (show J 198 3 + x = K 215 27 + x by rw [e6]), r1, r2, r3, r4, r5, r6, r7, r8, r9, r10, r11, r12, r13, r14, r15, r16, r17, (by (try simp (disch := decide) only [vw_wr, vw_rw, vw_jvo]); exact hwk), hso, hrn, (by (try simp (disch := decide) only [vw_wr, vw_rw]); rw [vw_jvw (by assumption)]; exact hnu), (by (try simp (disch := decide) only [vw_wr, vw_rw]); rw [vw_jvw (by assumption)]; exact (l_pt7 (l_pt9 hpt (j_wr_same _ _ _ _) (fun j e => j_wr_idx _ _ _ e)) (j_wr_same _ _ _ _) (fun j e => j_wr_idx _ _ _ e))), (by (try simp (disch := decide) only [vw_wr, vw_rw]); rw [vw_jvw (by assumption)]; exact hrg), (by (try simp (disch := decide) only [vw_wr, vw_rw]); rw [vw_jvw (by assumption)]; exact hbx), hor, (by (try simp (disch := decide) only [vw_wr, vw_rw]); rw [vw_jvw (by assumption)]; exact hsa), (by (try simp (disch := decide) only [vw_wr, vw_rw]); rw [vw_jvw (by assumption)]; exact hsb), (by (try simp (disch := decide) only [vw_wr, vw_rw]); rw [vw_jvw (by assumption)]; exact hsc), (by (try simp (disch := decide) only [vw_wr, vw_rw]); rw [vw_jvw (by assumption)]; exact hsn), hwz, hth, (by (try simp (disch := decide) only [vw_wr, vw_rw, vw_jvo]); exact hla), hli, hlt, hpr, hby, htp, hrm, (by (try simp (disch := decide) only [vw_wr, vw_rw]); rw [vw_jvw (by assumption)]; exact hhd), hlr, hK⟩
theorem pr_ton2 {F : Nat} {s : Nat → Nat} {J0 J K : j_M} {i : Nat} {v11 : Int32} (hF : 20000000 < F) (hr : RW F s J K i) (kd x : Int32) (hl : f_Pr_latest F kd (nI (s 3)) (nI (s 3)) J0 = some (v11, J0)) (h0 : J0 202 0 = nI (s 9)) (h5 : J0 205 = J 205) (h6 : J0 206 = J 206) (h7 : J0 207 = J 207) : j_wp2 (f_G_worth F v11 i x J) (f_M_tonight F kd (nI i) x K) (fun v J' w K' => v = w ∧ p_scr J K J' K') := by
  have hr0 := hr
  obtain ⟨a1, b1, c1, a2, b2, c2, a3, b3, a9, b9, c9, b4, c4, hrn, hpr, r10, r11, r12, hp, hi, p10, cm, hcm, ecm⟩ := hr
  unfold f_M_tonight
  rw [b3]
  obtain ⟨v, J1, w, K1, e1, e2, hl2, rfl, rfl⟩ := l_latest (J := J0) (K := K) kd (nI (s 3)) (nI (s 3)) hF h0 b9 c9 (h5.trans r10) (h6.trans r11) (h7.trans r12)
  rw [hl] at e1
  have ev : v11 = v := congrArg Prod.fst (Option.some.inj e1)
  subst ev
  rw [e2, j_bdS]
  exact w_worthW hF hr0 x v11 w hl2
theorem pr_serve {F : Nat} {s : Nat → Nat} {J K : j_M} (hF : 20000000 < F) (hr : RR F s J K) : j_wp2 (f_G_serveOrders F J) (f_M_serve F K) (fun _ J' _ K' => ∃ s', (∀ k, k ≠ 8 → s' k = s k) ∧ RR F s' J' K' ∧ (∀ j, vw 43 100 J' j 3 = vw 43 100 J j 3 ∧ vw 43 100 J' j 5 = vw 43 100 J j 5) ∧ frJ J J' ∧ frK K K') := by
  have a3 := RR_a3 hr
  have a8 := RR_a8 hr
  have b8 := RR_b8 hr
  have c8 := RR_c8 hr
  have a14 := RR_a14 hr
  have b14 := RR_b14 hr
  have c14 := RR_c14 hr
  unfold f_G_serveOrders f_M_serve
  obtain ⟨v11, J1, w0, K1, e1, e2, hl2, rfl, rfl⟩ := l_latest (J := J) (K := K) 1 (nI (s 3)) (nI (s 3)) hF (RR_a9 hr) (RR_b9 hr) (RR_c9 hr) (RR_r10 hr) (RR_r11 hr) (RR_r12 hr)
  rw [a3, e1, j_bdS, a8, b8, a14, b14, j_letE]
  have hlk : ∃ lk, lk ≤ s 8 ∧ (if nI (s 8) < nI (s 14) then nI (s 8) else nI (s 14)) = nI lk ∧ (if nI (s 8) ≤ nI (s 14) then f_M_serve_22 F (nI (s 8)) K1 else f_M_serve_22 F (nI (s 14)) K1) = f_M_serve_25 F (nI lk) 0 K1 := by
    refine ⟨min (s 8) (s 14), Nat.min_le_left _ _, nI_min (by omega) (by omega), ?_⟩
    unfold f_M_serve_22
    by_cases c : s 8 ≤ s 14
    · rw [if_pos (nI_le c (by omega)), Nat.min_eq_left c]
    · rw [if_neg (nI_ge (by omega) (by omega)), Nat.min_eq_right (by omega)]
  obtain ⟨lk, hlk, l1, l2⟩ := hlk
  rw [l1, l2]
  unfold f_G_serveOrders_37 f_M_serve_25
  refine j_it2 (Inv := fun k q r => ∃ i s' J' K', i + k = lk ∧ q = (v11, nI lk, nI i, J') ∧ r = (nI lk, nI i, K') ∧ (∀ k, k ≠ 8 → s' k = s k) ∧ s 8 ≤ s' 8 + i ∧ RR F s' J' K' ∧ (∀ c, 202 ≤ c → c < 208 → J' c = J1 c) ∧ (∀ j, vw 43 100 J' j 3 = vw 43 100 J1 j 3 ∧ vw 43 100 J' j 5 = vw 43 100 J1 j 5) ∧ frJ J1 J' ∧ frK K1 K') ?_ F lk _ _ (by omega) ⟨0, s, J1, K1, by omega, rfl, rfl, fun _ _ => rfl, by omega, hr, fun _ _ _ => rfl, fun _ => ⟨rfl, rfl⟩, frJ_rf _, frK_rf _⟩
  intro k q r g1 g2 hq hag
  obtain ⟨i, s', J', K', hi, rfl, rfl, hss, hs8, hr', hc, hv, f1, f2⟩ := hq
  dsimp only
  unfold f_G_serveOrders_37b f_M_serve_25b
  by_cases e : i = lk
  · have c : nI lk ≤ nI i := nI_le (by omega) (by omega)
    exact wp2_Lp c (wp2_Rp c (wp2_mk rfl rfl ⟨s', hss, hr', hv, f1, f2⟩))
  have c : ¬ nI lk ≤ nI i := nI_ge (by omega) (by omega)
  obtain ⟨no, hno⟩ : ∃ no, s' 8 = no + 1 := ⟨s' 8 - 1, by omega⟩
  have c8' := RR_c8 hr'
  have c1' := RR_c1 hr'
  have s1 : s' 1 = s 1 := hss 1 (by decide)
  have s3 : s' 3 = s 3 := hss 3 (by decide)
  have s9 : s' 9 = s 9 := hss 9 (by decide)
  obtain ⟨p, hp, ep⟩ := RR_hor hr' 0 (by omega)
  have p100 : p < 100 := by omega
  have op : j_ok (nI p) 100 = true := j_ok_nI p100 (by decide)
  have r7 := RR_r7 hr'
  have r8 := RR_r8 hr'
  have r9 := RR_r9 hr'
  have k0 : K' 242 0 = nI p := by rw [← r7]; exact ep
  have hr2 := rr_rmv hr' hno
  have nxt : ∀ s'' J'' K'', (∀ k, k ≠ 8 → s'' k = s k) → s 8 ≤ s'' 8 + (i + 1) → RR F s'' J'' K'' → (∀ c, 202 ≤ c → c < 208 → J'' c = J1 c) → (∀ j, vw 43 100 J'' j 3 = vw 43 100 J1 j 3 ∧ vw 43 100 J'' j 5 = vw 43 100 J1 j 5) → frJ J1 J'' → frK K1 K'' → j_wp2 (g1 (v11, nI lk, nI (i + 1), J'')) (g2 (nI lk, nI (i + 1), K'')) (fun _ J' _ K' => ∃ s', (∀ k, k ≠ 8 → s' k = s k) ∧ RR F s' J' K' ∧ (∀ j, vw 43 100 J' j 3 = vw 43 100 J1 j 3 ∧ vw 43 100 J' j 5 = vw 43 100 J1 j 5) ∧ frJ J1 J' ∧ frK K1 K') := fun s'' J'' K'' y1 y2 y3 y4 y5 y6 y7 => hag _ _ (k - 1) (by omega) ⟨i + 1, s'', J'', K'', by omega, rfl, rfl, y1, y2, y3, y4, y5, y6, y7⟩
  refine wp2_Ln c (wp2_Rn c ?_)
  unfold f_Ki_serveFirst f_G_serveOrders_144
  simp only [show j_ok (0 : Int32) 60 = true from rfl, show j_ix (0 : Int32) = 0 from rfl, if_true, j_letE, ep, k0, op, j_ix_nI (show p < 2 ^ 31 by omega)]
  rw [e_rem (no := no) hF (by rw [RR_a8 hr', hno]) (by omega), j_bdS, e_rem2 (no := no) hF (by rw [RR_b8 hr', hno]) (by omega)]
  unfold f_M_serve_56b f_M_serve_224
  have q46 : (k_rmv K' no) 215 46 = nI (no + 1) := by rw [← hno]; exact (show K' 215 46 = nI (s' 8) from RR_b8 hr')
  simp only [q46, nI_pred, j_letE]
  refine wp2_Rp (nI_le (Nat.le_refl _) (by omega)) ?_
  have x43 : (j_rmv J' no) 198 0 = (j_wr (k_rmv K' no) 215 46 (nI no)) 215 43 := RR_e4 hr2
  have x44 : J' 198 1 = (j_wr (k_rmv K' no) 215 46 (nI no)) 215 44 := (show (j_rmv J' no) 198 1 = (j_wr (k_rmv K' no) 215 46 (nI no)) 215 44 from RR_e5 hr2)
  have cJ : ∀ c, 202 ≤ c → c < 208 → (j_rmv J' no) c = J1 c := fun c y1 y2 => by
    rw [← hc c y1 y2]
    show j_rw (j_rw (j_rw (j_wr J' 198 4 (nI no)) 199 (sh1 (J' 199) no)) 200 (sh1 (J' 200) no)) 201 (shb (J' 201) no) c = J' c
    rw [rw_ne (show c ≠ 201 by omega), rw_ne (show c ≠ 200 by omega), rw_ne (show c ≠ 199 by omega), j_wr_cell _ _ _ (show c ≠ 198 by omega)]
  have vR : vw 43 100 (j_rmv J' no) = vw 43 100 J' := by simp (disch := decide) only [vw_wr, vw_rw]
  have fJ : frJ J1 (j_rmv J' no) := frJ_rw (by decide) (frJ_rw (by decide) (frJ_rw (by decide) (frJ_wr (by decide) f1)))
  have fK : frK K1 (j_wr (k_rmv K' no) 215 46 (nI no)) := frK_wr (by decide) (frK_rw (by decide) (frK_rw (by decide) (frK_rw (by decide) f2)))
  have sN : ∀ k, k ≠ 8 → p_up s' 8 no k = s k := fun k hk => by unfold p_up; rw [if_neg hk]; exact hss k hk
  rw [← r8, ← r9, ← x43, ← x44]
  by_cases cm : (j_rmv J' no) 198 0 < J' 200 0 * J' 198 1
  · rw [if_pos cm]
    refine wp2_Rp cm ?_
    by_cases cl : J' 201 0 = 0
    · rw [if_pos cl]
      refine wp2_Rp cl ?_
      have on : j_ok (nI no) 60 = true := j_ok_nI (by omega) (by decide)
      have hr3 := rr_app (no := no) (x := J' 200 0) (y := 1 &&& 1) (p := p) hr2 rfl (by omega) hp
      unfold f_Ki_append
      have y1 : (j_rmv J' no) 198 4 = nI no := rfl
      have y2 : (j_wr (k_rmv K' no) 215 46 (nI no)) 215 46 = nI no := rfl
      simp (disch := decide) only [y1, y2, on, if_true, j_letE, j_ix_nI (show no < 2 ^ 31 by omega), j_wr_cell, j_bdS, nI_1]
      refine nxt _ _ _ (fun k hk => ?_) ?_ hr3 (fun c y1 y2 => ?_) (fun j => ?_) ?_ ?_
      · unfold p_up; rw [if_neg hk]; exact sN k hk
      · show s 8 ≤ no + 1 + (i + 1); omega
      · rw [j_wr_cell _ _ _ (show c ≠ 198 by omega), j_wr_cell _ _ _ (show c ≠ 201 by omega), j_wr_cell _ _ _ (show c ≠ 200 by omega), j_wr_cell _ _ _ (show c ≠ 199 by omega)]
        exact cJ c y1 y2
      · simp (disch := decide) only [vw_wr, vw_rw]; exact hv j
      · exact frJ_wr (by decide) (frJ_wr (by decide) (frJ_wr (by decide) (frJ_wr (by decide) fJ)))
      · exact frK_wr (by decide) (frK_wr (by decide) (frK_wr (by decide) (frK_wr (by decide) fK)))
    · rw [if_neg cl]
      refine wp2_Rn cl ?_
      rw [j_bdS, nI_1]
      refine wp2_Lp rfl ?_
      refine nxt _ _ _ sN ?_ hr2 cJ (fun j => ?_) fJ fK
      · show s 8 ≤ no + (i + 1); omega
      · rw [vR]; exact hv j
  · rw [if_neg cm]
    refine wp2_Rn cm ?_
    rw [j_bdS]
    refine wp2_Ln (by decide) ?_
    have gh : ∀ Jx : j_M, Jx 41 0 = nI (s' 1) → f_Gu_has F (nI p) Jx = some (1, Jx) := fun Jx h => by rw [e_Gu_has, h, if_pos ⟨nI_pos' (by omega), nI_lt hp (by omega)⟩]
    refine wp2_L ⟨1, _, gh _ (by have a1 := RR_a1 hr'; exact a1), ?_⟩
    refine wp2_Ln (by decide) ?_
    simp only [op, if_true, j_ix_nI (show p < 2 ^ 31 by omega)]
    have hrw := RW_of hr2 (show p < p_up s' 8 no 1 from hp)
    generalize hy : J' 200 0 * J' 198 1 = y at cm ⊢
    generalize hx : J' 200 0 = x
    have hrw2 : RW F (p_up s' 8 no) (j_wr (j_wr (j_rmv J' no) 198 0 ((j_rmv J' no) 198 0 - y)) 198 3 ((j_rmv J' no) 198 3 + x)) (j_wr (j_wr (j_wr (j_wr (k_rmv K' no) 215 46 (nI no)) 215 43 ((j_rmv J' no) 198 0 - y)) 231 p (K' 231 p + x)) 215 27 (K' 215 27 + x)) p := by
      obtain ⟨t1, t2, t3, t4, t5, t6, t7, t8, t9, t10, t11, t12, t13, t14, t15, t16, t17, t18, t19, t20, t21, t22⟩ := hrw
      refine ⟨t1, t2, t3, t4, t5, t6, t7, t8, t9, t10, t11, t12, t13, t14, t15, t16, t17, t18, ?_, t20, ?_, ?_⟩
      · simp (disch := decide) only [vw_wr] at t19 ⊢; exact t19
      · simp (disch := decide) only [vw_wr] at t21 ⊢; exact t21
      · simp (disch := decide) only [vw_wr] at t22 ⊢; exact t22
    have q := pr_ton2 (J0 := J1) (v11 := v11) hF hrw2 1 x (show f_Pr_latest F 1 (nI (s' 3)) (nI (s' 3)) J1 = _ by rw [s3]; exact e1) (show J1 202 0 = nI (s' 9) by rw [s9]; exact RR_a9 hr) (cJ 205 (by decide) (by decide)).symm (cJ 206 (by decide) (by decide)).symm (cJ 207 (by decide) (by decide)).symm
    refine wp2_bd (wp2_mono q ?_)
    rintro v J7 w K7 ⟨rfl, ⟨ga, gb, rfl⟩, ⟨gc, gd, rfl⟩⟩
    have P9 : (j_rmv J' no) (43 + p) 9 = K' 231 p := by
      rw [vw_at (lo := 43) (hi := 100) (I := j_rmv J' no) p100]; exact (RR_hpt hr2 p hp).2.2.2.2.2.2.2.2.1
    have P7 : (j_rmv J' no) (43 + p) 7 = K' 229 p := by
      rw [vw_at (lo := 43) (hi := 100) (I := j_rmv J' no) p100]; exact (RR_hpt hr2 p hp).2.2.2.2.2.2.1
    have hr4 := rr_srv (x := x) (y := y) (v := v) hr2 (show p < p_up s' 8 no 1 from hp)
    obtain ⟨m1, m2, m3, m4, m5⟩ := RR_scr hr4 ⟨⟨ga, gb, rfl⟩, ⟨gc, gd, rfl⟩⟩
    have hv0 : v0 100 (vup (vup (vw 43 100 (j_rmv J' no)) p 9 (K' 231 p + x)) p 7 (K' 229 p + v)) := v0_up (v0_up (v0_vw _ _ _) p100) p100
    have eJ : j_wr (j_wr (j_wr (j_rw (j_rw (j_wr (j_wr (j_rmv J' no) 198 0 ((j_rmv J' no) 198 0 - y)) 198 3 ((j_rmv J' no) 198 3 + x)) 209 ga) 208 gb) (43 + p) 9 (K' 231 p + x)) (43 + p) 7 (K' 229 p + v)) 0 14 ((j_rmv J' no) 0 14 + v) = j_rw (j_rw (jvw (j_wr (j_wr (j_wr (j_rmv J' no) 198 0 ((j_rmv J' no) 198 0 - y)) 198 3 ((j_rmv J' no) 198 3 + x)) 0 14 ((j_rmv J' no) 0 14 + v)) 43 100 (vup (vup (vw 43 100 (j_rmv J' no)) p 9 (K' 231 p + x)) p 7 (K' 229 p + v))) 209 ga) 208 gb := by
      rw [wr_ne (show 43 + p ≠ 208 by omega), wr_ne (show 43 + p ≠ 209 by omega), wr_ne (show 43 + p ≠ 208 by omega), wr_ne (show 43 + p ≠ 209 by omega), wr_ne (by decide), wr_ne (by decide)]
      rw [jvw_wr1 (lo := 43) (hi := 100) (k := 9) p100, jvw_wr2 (lo := 43) (hi := 100) p100, jvw_wr3 (by decide)]
      simp (disch := decide) only [vw_wr]
    have eK : j_wr (j_wr (j_rw (j_rw (j_wr (j_wr (j_wr (j_wr (k_rmv K' no) 215 46 (nI no)) 215 43 ((j_rmv J' no) 198 0 - y)) 231 p (K' 231 p + x)) 215 27 (K' 215 27 + x)) 253 gc) 254 gd) 229 p (K' 229 p + v)) 215 26 (K' 215 26 + v) = j_rw (j_rw (j_wr (j_wr (j_wr (j_wr (j_wr (j_wr (k_rmv K' no) 215 46 (nI no)) 215 43 ((j_rmv J' no) 198 0 - y)) 231 p (K' 231 p + x)) 215 27 (K' 215 27 + x)) 229 p (K' 229 p + v)) 215 26 (K' 215 26 + v)) 253 gc) 254 gd := by
      rw [wr_ne (by decide), wr_ne (by decide), wr_ne (by decide), wr_ne (by decide)]
    have z9 : (j_rw (j_rw (j_wr (j_wr (j_rmv J' no) 198 0 ((j_rmv J' no) 198 0 - y)) 198 3 ((j_rmv J' no) 198 3 + x)) 209 ga) 208 gb) (43 + p) 9 = K' 231 p := by
      rw [rw_ne (show 43 + p ≠ 208 by omega), rw_ne (show 43 + p ≠ 209 by omega), j_wr_cell _ _ _ (show 43 + p ≠ 198 by omega), j_wr_cell _ _ _ (show 43 + p ≠ 198 by omega)]
      exact P9
    have z7 : (j_wr (j_rw (j_rw (j_wr (j_wr (j_rmv J' no) 198 0 ((j_rmv J' no) 198 0 - y)) 198 3 ((j_rmv J' no) 198 3 + x)) 209 ga) 208 gb) (43 + p) 9 (K' 231 p + x)) (43 + p) 7 = K' 229 p := by
      rw [j_wr_idx _ _ _ (show 7 ≠ 9 by decide), rw_ne (show 43 + p ≠ 208 by omega), rw_ne (show 43 + p ≠ 209 by omega), j_wr_cell _ _ _ (show 43 + p ≠ 198 by omega), j_wr_cell _ _ _ (show 43 + p ≠ 198 by omega)]
      exact P7
    have z14 : ∀ a b, (j_wr (j_wr (j_rw (j_rw (j_wr (j_wr (j_rmv J' no) 198 0 ((j_rmv J' no) 198 0 - y)) 198 3 ((j_rmv J' no) 198 3 + x)) 209 ga) 208 gb) (43 + p) 9 a) (43 + p) 7 b) 0 14 = (j_rmv J' no) 0 14 := fun a b => by
      rw [j_wr_cell _ _ _ (show 0 ≠ 43 + p by omega), j_wr_cell _ _ _ (show 0 ≠ 43 + p by omega)]
      rfl
    rw [← x43] at m1 m4
    have q43 : (j_wr (k_rmv K' no) 215 46 (nI no)) 231 p = K' 231 p := rfl
    simp only [op, if_true, z9, z7, z14, j_letE, nI_1, j_ix_nI (show p < 2 ^ 31 by omega)]
    rw [eJ]
    have nx2 := nxt (p_up s' 8 no) _ _ sN (show s 8 ≤ no + (i + 1) by omega) m1 (fun c y1 y2 => ?_) (fun j => ?_) (frJ_tr (frJ_vw (by decide) (frJ_wr (by decide) (frJ_wr (by decide) (frJ_wr (by decide) fJ)))) m3) (frK_tr (frK_wr (by decide) (frK_wr (by decide) (frK_wr (by decide) (frK_wr (by decide) (frK_wr (by decide) fK))))) m4)
    · refine j_wp2_cast nx2 rfl ?_
      exact congrArg (fun K => g2 (nI lk, nI (i + 1), K)) eK.symm
    · rw [m5 c (by omega), jvw_out (by omega), j_wr_cell _ _ _ (show c ≠ 0 by omega), j_wr_cell _ _ _ (show c ≠ 198 by omega), j_wr_cell _ _ _ (show c ≠ 198 by omega)]
      exact cJ c y1 y2
    · rw [m2, vw_jvw (v0_up (v0_up (v0_vw _ _ _) p100) p100), vR]
      exact hv j
