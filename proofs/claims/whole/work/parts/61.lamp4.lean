/-! light, best: both sides -/
theorem fd_fd {K : j_M} {g g' : Nat → Int32} {u w u' w' : Int32} : k_fd (k_fd K g u w) g' u' w' = k_fd K g' u' w' := by
  funext x y
  simp only [j_wr_at]
  by_cases e1 : x = 215 ∧ y = 39
  · simp only [if_pos e1]
  · simp only [if_neg e1]
    by_cases e2 : x = 215 ∧ y = 38
    · simp only [if_pos e2]
    · simp only [if_neg e2]
      unfold j_rw
      by_cases e3 : x = 238
      · rw [if_pos e3, if_pos e3]
      · rw [if_neg e3, if_neg e3]
        simp only [j_wr_at]
        rw [if_neg e1, if_neg e2, rw_ne e3]
theorem pr_light {F : Nat} {s : Nat → Nat} {J K : j_M} {a b : Nat} {x2 : Int32} (hF : 50000000 < F) (hs : s 13 < 512) (h : R1 F s J K) (ha : a < s 5) (hb : b < s 5) (hx : ∀ l, l < s 5 → ((nI l = nI a ∨ nI l = x2) ↔ (l = a ∨ l = b))) : j_wp2 (f_G_light_44 F (nI a) (nI b) J) (f_M_light_23 F (nI a) x2 K) (OPQ F s J K) := by
  obtain ⟨hr, h1, h2⟩ := h
  obtain ⟨a0, b0, c0, a1, b1, c1, a2, b2, c2, a3, b3, c3, d3, a4, b4, c4, a5, b5, c5, a6, b6, c6, a7, b7, c7, a8, b8, c8, a9, b9, c9, a10, b10, c10, a11, b11, c11, a12, a15, c15, a14, b14, c14, e1, e2, e3, e4, e5, e6, r1, r2, r3, r4, r5, r6, r7, r8, r9, r10, r11, r12, r13, r14, r15, r16, r17, hwk, hso, hrn, hnu, hpt, hrg, hbx, hor, hsa, hsb, hsc, hsn, hwz, hth, hla, hli, hlt, hpr, hby, htp, hrm, hhd, hlr, hK⟩ := hr
  have hla0 := hla
  obtain ⟨A, B, L, E, y1, y2, y3⟩ := hla0
  have hE : l_rows J E := fun x y hx hy => by rw [vw_at (lo := 154) (hi := 40) (I := J) hx]; exact y2 x y hx hy
  have hfu : l_fu (s 6) (s 5) A B L K := y1
  have hk3 : ∀ k, k < s 6 → A k < s 5 ∧ B k < s 5 ∧ L k ≤ 999 := fun k hkn => ⟨(y1 k hkn).1, (y1 k hkn).2.1, (y1 k hkn).2.2.2.1⟩
  have hbd : ∀ x l, x < 40 → l < 40 → E x l = 10000000 ∨ E x l ≤ 39960 := fun x l hx hl => l_bound y3 c5 hk3 hx hl
  unfold f_G_light_44 f_M_light_23
  rw [a2]
  obtain ⟨g, hg, e⟩ := l_kindle (F := F) (x3 := nI (s 2)) (by omega) c5 a5 hE ha hb hbd
  rw [e, j_bdS]
  refine wp2_R (wpo_mono (l_find hF c5 c6 b5 b6 hfu y3 ha hb hx) ?_)
  rintro v K' ⟨g2, hg2, rfl⟩
  rw [l_copy (K := k_fd K g2 (nI (p_mx (l_w E a b) (s 5))) (nI (p_sum (l_d E a b) (s 5)))) (nl := s 5) (by omega) c5 b5]
  refine wp2_mk rfl rfl (op_fin (s' := s) hs rfl rfl ?_ ?_ ⟨?_, ?_, h2⟩)
  · exact frJ_wr (by decide) (frJ_rw (by decide) (frJ_rf _))
  · exact frK_wr (by decide) (frK_wr (by decide) (frK_rw (by decide) (frK_wr (by decide) (frK_wr (by decide) (frK_rw (by decide) (frK_rf _))))))
  · exact ⟨a0, b0, c0, a1, b1, c1, a2, b2, c2, a3, b3, c3, d3, a4, b4, c4, a5, b5, c5, a6, b6, c6, a7, b7, c7, a8, b8, c8, a9, b9, c9, a10, b10, c10, a11, b11, c11, a12, a15, c15, a14, b14, c14, e1, e2, e3, e4, e5, e6, r1, r2, r3, r4, r5, r6, r7, r8, r9, r10, r11, r12, r13, r14, r15, r16, r17, (by (try simp (disch := decide) only [vw_wr, vw_rw, vw_jvo]); exact hwk), hso, hrn, (by (try simp (disch := decide) only [vw_wr, vw_rw, vw_jvo]); exact hnu), (by (try simp (disch := decide) only [vw_wr, vw_rw, vw_jvo]); exact hpt), (by (try simp (disch := decide) only [vw_wr, vw_rw, vw_jvo]); exact hrg), (by (try simp (disch := decide) only [vw_wr, vw_rw, vw_jvo]); exact hbx), hor, (by (try simp (disch := decide) only [vw_wr, vw_rw, vw_jvo]); exact hsa), (by (try simp (disch := decide) only [vw_wr, vw_rw, vw_jvo]); exact hsb), (by (try simp (disch := decide) only [vw_wr, vw_rw, vw_jvo]); exact hsc), (by (try simp (disch := decide) only [vw_wr, vw_rw, vw_jvo]); exact hsn), hwz, hth, (by (try simp (disch := decide) only [vw_wr, vw_rw, vw_jvo]); exact hla), (show R_li (s 5) g (fun l => if l < s 5 then g2 l else K 239 l) from fun l hl => (by
      dsimp only
      rw [if_pos hl, hg l hl, hg2 l hl]
      have ba := hbd a l (by omega) (by omega)
      have bb := hbd b l (by omega) (by omega)
      unfold l_sc l_lt l_w
      by_cases c : l_m E a b l < 10000000
      · simp only [if_pos c]
        refine Or.inr ⟨l_m E a b l, ?_, rfl, rfl⟩
        unfold l_m at c ⊢
        omega
      · simp only [if_neg c]
        exact Or.inl ⟨trivial, rfl⟩)), (Or.inr ⟨rfl, s 2, Nat.le_refl _, rfl, b2⟩), hpr, hby, htp, hrm, (by (try simp (disch := decide) only [vw_wr, vw_rw, vw_jvo]); exact hhd), hlr, hK⟩
  · simp (disch := decide) only [vw_wr, vw_rw]; exact h1
theorem op_light (F : Nat) (hF : 50000000 < F) (x1 x2 : Int32) : OP F (f_G_light F x1 x2) (f_M_light F x1 x2) := by
  intro s J K hs h
  have a5 := RR_a5 h.1
  have b5 := RR_b5 h.1
  have c5 := RR_c5 h.1
  simp only [f_G_light, f_M_light, f_G_light_29, e_La_has, e_isLa F x1 K b5 (by omega), e_isLa F x2 K b5 (by omega), j_bdS, a5]
  refine wp2_ite Iff.rfl (fun q1 => wp2_mk rfl rfl (op_idle hs h rfl)) (fun q1 => ?_)
  obtain ⟨a, ha, rfl⟩ := nI_in1 (by omega) (b10n q1)
  refine wp2_ite Iff.rfl (fun z => wp2_Lp z (pr_light hF hs h ha ha (fun l hl => ⟨fun y => ?_, fun y => ?_⟩))) (fun z => wp2_ite Iff.rfl (fun q1 => wp2_mk rfl rfl (op_idle hs h rfl)) (fun q2 => ?_))
  · rcases y with y | y
    · exact Or.inl ((nI_eq (by omega) (by omega)).mp y)
    · rw [z] at y; exact absurd y (nI_nem (by omega))
  · rcases y with y | y <;> exact Or.inl (by rw [y])
  · obtain ⟨b, hb, rfl⟩ := nI_in1 (by omega) (b10n q2)
    refine wp2_Ln z (pr_light hF hs h ha hb (fun l hl => ⟨fun y => ?_, fun y => ?_⟩))
    · rcases y with y | y
      · exact Or.inl ((nI_eq (by omega) (by omega)).mp y)
      · exact Or.inr ((nI_eq (by omega) (by omega)).mp y)
    · rcases y with y | y
      · exact Or.inl (by rw [y])
      · exact Or.inr (by rw [y])
theorem l_cost {F nl a b : Nat} {E : Nat → Nat → Nat} {J : j_M} (hF : 20000000 < F) (hnl : nl ≤ 40) (h5 : J 150 0 = nI nl) (hE : l_rows J E) (ha : a < nl) (hb : b < nl) (hbd : ∀ x l, x < 40 → l < 40 → E x l = 10000000 ∨ E x l ≤ 39960) : f_La_costOf F (nI a) (nI b) J = some (nI (p_sum (l_d E a b) nl * 10000 + p_mx (l_w E a b) nl), J) := by
  unfold f_La_costOf f_La_costOf_8
  refine j_it_run (r := some (nI (p_sum (l_d E a b) nl * 10000 + p_mx (l_w E a b) nl), J)) (fun i => (nI a, nI b, nI (p_mx (l_w E a b) i), nI (p_sum (l_d E a b) i), nI i, J)) nl (fun i hi again => ?_) (fun again => ?_) F 0 (by omega) (by omega)
  · dsimp only
    have hw : ∀ p, p < nl → l_w E a b p ≤ 3996 := fun p hp => w_le (hbd a p (by omega) (by omega)) (hbd b p (by omega) (by omega))
    have mb : p_mx (l_w E a b) i ≤ 3996 := mx_le (fun p hp => hw p (by omega))
    unfold f_La_costOf_8b f_La_costOf_47
    rw [h5, if_neg (nI_ge hi (by omega)), e_second hE (by omega) (by omega) (by omega) (fun x hx => hbd x i hx (by omega)), j_bdS]
    simp only [j_letE, nI_1]
    rw [sc_max (by omega) (hw i hi), p_mx, p_sum]
    unfold l_sc l_d
    by_cases c : l_m E a b i < 10000000
    · rw [if_pos c, if_pos c, if_neg (nI_nem (by have := hw i hi; omega)), Int32.add_zero]; rfl
    · rw [if_neg c, if_neg c, if_pos rfl]
  · dsimp only
    unfold f_La_costOf_8b
    rw [h5, if_pos (nI_le (Nat.le_refl _) (by omega)), show (10000 : Int32) = nI 10000 from rfl, pk_mul, nI_add]
def l_SS (best least ld ll : Int32) : Prop := (best = -1 ∧ least = 10000000) ∨ ∃ bb dk ls, bb < 10000 ∧ dk ≤ 40 ∧ ls < 10000 ∧ best = nI bb ∧ least = nI (dk * 10000 + ls) ∧ ld = nI dk ∧ ll = nI ls
theorem best_step {α β : Type} {best least ld ll : Int32} {a b dk ls : Nat} {k1 : Int32 → Int32 → Option (α × j_M)} {k2 : Int32 → Int32 → Int32 → Option (β × j_M)} {Q : α → j_M → β → j_M → Prop} (h : l_SS best least ld ll) (ha : a < 40) (hb : b < 100) (hdk : dk ≤ 40) (hls : ls < 10000) (nx : ∀ best' least' ld' ll', l_SS best' least' ld' ll' → j_wp2 (k1 best' least') (k2 best' ld' ll') Q) : j_wp2 (if least ≤ nI (dk * 10000 + ls) then k1 best least else k1 (100 * nI a + nI b) (nI (dk * 10000 + ls))) (if best < 0 then k2 (100 * nI a + nI b) (nI dk) (nI ls) else (if ld < nI dk then k2 best ld ll else (if nI dk = ld then (if nI ls < ll then k2 (100 * nI a + nI b) (nI dk) (nI ls) else k2 best ld ll) else k2 (100 * nI a + nI b) (nI dk) (nI ls)))) Q := by
  have keep := nx _ _ _ _ h
  have new : j_wp2 (k1 (100 * nI a + nI b) (nI (dk * 10000 + ls))) (k2 (100 * nI a + nI b) (nI dk) (nI ls)) Q := nx _ _ _ _ (Or.inr ⟨100 * a + b, dk, ls, by omega, hdk, hls, nI_100 a b, rfl, rfl, rfl⟩)
  rcases h with ⟨rfl, rfl⟩ | ⟨bb, d0, l0, h1, h2, h3, rfl, rfl, rfl, rfl⟩
  · exact wp2_Ln (nI_ge (b := 10000000) (by omega) (by decide)) (wp2_Rp (by decide) new)
  · refine wp2_Rn (nI_pos (by omega)) ?_
    by_cases c1 : d0 < dk
    · exact wp2_Lp (nI_le (by omega) (by omega)) (wp2_Rp (nI_lt c1 (by omega)) keep)
    · refine wp2_Rn (nI_nlt (by omega) (by omega)) ?_
      by_cases c2 : dk = d0
      · subst c2
        refine wp2_Rp rfl ?_
        by_cases c3 : ls < l0
        · exact wp2_Ln (nI_ge (by omega) (by omega)) (wp2_Rp (nI_lt c3 (by omega)) new)
        · exact wp2_Lp (nI_le (by omega) (by omega)) (wp2_Rn (nI_nlt (by omega) (by omega)) keep)
      · exact wp2_Ln (nI_ge (by omega) (by omega)) (wp2_Rn (nI_ne c2 (by omega) (by omega)) new)
theorem op_best (F : Nat) (hF : 50000000 < F) (x1 : Int32) : OP F (f_G_best F x1) (f_M_best F x1) := by
  intro s J K hs h
  have h0 := h
  obtain ⟨hr, h1, h2⟩ := h
  obtain ⟨a0, b0, c0, a1, b1, c1, a2, b2, c2, a3, b3, c3, d3, a4, b4, c4, a5, b5, c5, a6, b6, c6, a7, b7, c7, a8, b8, c8, a9, b9, c9, a10, b10, c10, a11, b11, c11, a12, a15, c15, a14, b14, c14, e1, e2, e3, e4, e5, e6, r1, r2, r3, r4, r5, r6, r7, r8, r9, r10, r11, r12, r13, r14, r15, r16, r17, hwk, hso, hrn, hnu, hpt, hrg, hbx, hor, hsa, hsb, hsc, hsn, hwz, hth, hla, hli, hlt, hpr, hby, htp, hrm, hhd, hlr, hK⟩ := hr
  simp only [f_G_best, f_M_best, e_within, e_among, j_bdS, a5, b5, bd_id]
  refine wp2_ite Iff.rfl (fun q1 => wp2_mk rfl rfl (op_idle hs h0 rfl)) (fun q1 => ?_)
  have q1' := b10n q1
  obtain ⟨n, hn, rfl⟩ := nI_in2 2 rfl (by decide) ⟨Int32.le_trans (by decide) q1'.1, q1'.2⟩
  have hn1 : 1 ≤ n := (nI_leI (a := 1) (by decide) (by omega)).mp q1'.1
  refine wp2_ite Iff.rfl (fun q2 => ?_) (fun q2 => wp2_mk rfl rfl (op_idle hs h0 rfl))
  have hla0 := hla
  obtain ⟨A, B, L, E, y1, y2, y3⟩ := hla0
  have hE : l_rows J E := fun x y hx hy => by rw [vw_at (lo := 154) (hi := 40) (I := J) hx]; exact y2 x y hx hy
  have hfu : ∀ g u w, l_fu (s 6) (s 5) A B L (k_fd K g u w) := fun g u w => y1
  have hk3 : ∀ k, k < s 6 → A k < s 5 ∧ B k < s 5 ∧ L k ≤ 999 := fun k hkn => ⟨(y1 k hkn).1, (y1 k hkn).2.1, (y1 k hkn).2.2.2.1⟩
  have hbd : ∀ x l, x < 40 → l < 40 → E x l = 10000000 ∨ E x l ≤ 39960 := fun x l hx hl => l_bound y3 c5 hk3 hx hl
  have fin : ∀ v g u w, OPQ F s J K v J v (k_fd K g u w) := fun v g u w => by
    refine op_fin (s' := s) hs rfl rfl (frJ_rf _) (frK_wr (by decide) (frK_wr (by decide) (frK_rw (by decide) (frK_rf _)))) ⟨?_, h1, h2⟩
    exact ⟨a0, b0, c0, a1, b1, c1, a2, b2, c2, a3, b3, c3, d3, a4, b4, c4, a5, b5, c5, a6, b6, c6, a7, b7, c7, a8, b8, c8, a9, b9, c9, a10, b10, c10, a11, b11, c11, a12, a15, c15, a14, b14, c14, e1, e2, e3, e4, e5, e6, r1, r2, r3, r4, r5, r6, r7, r8, r9, r10, r11, r12, r13, r14, r15, r16, r17, (by (try simp (disch := decide) only [vw_wr, vw_rw, vw_jvo]); exact hwk), hso, hrn, (by (try simp (disch := decide) only [vw_wr, vw_rw, vw_jvo]); exact hnu), (by (try simp (disch := decide) only [vw_wr, vw_rw, vw_jvo]); exact hpt), (by (try simp (disch := decide) only [vw_wr, vw_rw, vw_jvo]); exact hrg), (by (try simp (disch := decide) only [vw_wr, vw_rw, vw_jvo]); exact hbx), hor, (by (try simp (disch := decide) only [vw_wr, vw_rw, vw_jvo]); exact hsa), (by (try simp (disch := decide) only [vw_wr, vw_rw, vw_jvo]); exact hsb), (by (try simp (disch := decide) only [vw_wr, vw_rw, vw_jvo]); exact hsc), (by (try simp (disch := decide) only [vw_wr, vw_rw, vw_jvo]); exact hsn), hwz, hth, (by (try simp (disch := decide) only [vw_wr, vw_rw, vw_jvo]); exact hla), hli, hlt, hpr, hby, htp, hrm, (by (try simp (disch := decide) only [vw_wr, vw_rw, vw_jvo]); exact hhd), hlr, hK⟩
  have hfind : ∀ (g : Nat → Int32) (u w : Int32) (a b : Nat) (x2 : Int32), a < s 5 → b < s 5 → (∀ l, l < s 5 → ((nI l = nI a ∨ nI l = x2) ↔ (l = a ∨ l = b))) → ∃ v g', f_M_find F (nI a) x2 (k_fd K g u w) = some (v, k_fd K g' (nI (p_mx (l_w E a b) (s 5))) (nI (p_sum (l_d E a b) (s 5)))) := by
    intro g u w a b x2 ha hb hx
    obtain ⟨v, K', e, g', -, rfl⟩ := l_find (K := k_fd K g u w) hF c5 c6 b5 b6 (hfu g u w) y3 ha hb hx
    rw [fd_fd] at e
    exact ⟨v, g', e⟩
  have hdk : ∀ a b, p_sum (l_d E a b) (s 5) ≤ 40 := fun a b => by
    have := p_sum_le (f := l_d E a b) (B := 1) (n := s 5) (fun p _ => by unfold l_d; split <;> omega)
    omega
  have hls : ∀ a b, a < s 5 → b < s 5 → p_mx (l_w E a b) (s 5) < 10000 := fun a b ha hb => by
    have := mx_le (f := l_w E a b) (C := 3996) (n := s 5) (fun p hp => w_le (hbd a p (by omega) (by omega)) (hbd b p (by omega) (by omega)))
    omega
  have eK : K = k_fd K (K 238) (K 215 38) (K 215 39) := by
    have e1 : j_rw K 238 (K 238) = K := rw_self K 238
    show K = j_wr (j_wr (j_rw K 238 (K 238)) 215 38 (K 215 38)) 215 39 (K 215 39)
    rw [e1, wr_self, wr_self]
  unfold f_La_bestStart f_La_bestStart_8 f_M_best_32
  refine j_it2 (Inv := fun k q r => ∃ a best least ld ll g u w, a + k = s 5 ∧ q = (nI n, best, least, nI a, J) ∧ r = (nI n, best, ld, ll, nI a, k_fd K g u w) ∧ l_SS best least ld ll) ?_ F (s 5) _ _ (by omega) ⟨0, -1, 10000000, 0, 0, K 238, K 215 38, K 215 39, by omega, rfl, by rw [← eK]; rfl, Or.inl ⟨rfl, rfl⟩⟩
  intro k q r g1 g2 hq hag
  obtain ⟨a, best, least, ld, ll, g, u, w, hk, rfl, rfl, hss⟩ := hq
  dsimp only
  unfold f_La_bestStart_8b f_M_best_32b
  have e28 : ∀ g u w, k_fd K g u w 215 28 = nI (s 5) := fun _ _ _ => b5
  rw [a5, e28]
  by_cases e : a = s 5
  · have c : nI (s 5) ≤ nI a := nI_le (by omega) (by omega)
    exact wp2_Lp c (wp2_Rp c (wp2_mk rfl rfl (fin _ _ _ _)))
  · have c : ¬ nI (s 5) ≤ nI a := nI_ge (by omega) (by omega)
    have ha : a < s 5 := by omega
    refine wp2_Ln c (wp2_Rn c ?_)
    have nxo : ∀ best' least' ld' ll' g' u' w', l_SS best' least' ld' ll' → j_wp2 (g1 (nI n, best', least', nI (a + 1), J)) (g2 (nI n, best', ld', ll', nI (a + 1), k_fd K g' u' w')) (OPQ F s J K) := fun best' least' ld' ll' g' u' w' hss' => hag _ _ (k - 1) (by omega) ⟨a + 1, best', least', ld', ll', g', u', w', by omega, rfl, rfl, hss'⟩
    unfold f_La_bestStart_31 f_La_bestStart_49 f_M_best_55
    by_cases en : n = 1
    · subst en
      refine wp2_Lp rfl (wp2_Rp rfl (wp2_Lp rfl ?_))
      unfold f_La_bestStart_55 f_M_best_57
      rw [nI_1]
      refine j_it2 (Inv := fun k q r => ∃ best least ld ll g u w, l_SS best least ld ll ∧ ((k = 1 ∧ q = (nI 1, best, least, nI a, nI (a + 1), nI a, J) ∧ r = (nI 1, best, ld, ll, nI a, 99, k_fd K g u w)) ∨ (k = 0 ∧ q = (nI 1, best, least, nI a, nI (a + 1), nI (a + 1), J) ∧ r = (nI 1, best, ld, ll, nI a, 100, k_fd K g u w)))) ?_ F 1 _ _ (by omega) ⟨best, least, ld, ll, g, u, w, hss, Or.inl ⟨rfl, rfl, rfl⟩⟩
      intro k2 q r h1' h2' hq hag2
      obtain ⟨best, least, ld, ll, g, u, w, hss, ⟨hk2, rfl, rfl⟩ | ⟨hk2, rfl, rfl⟩⟩ := hq
      · dsimp only
        unfold f_La_bestStart_55b f_M_best_57b f_M_best_73
        refine wp2_Rp rfl (wp2_Ln (nI_ge (by omega) (by omega)) (wp2_Rn (by decide) ?_))
        obtain ⟨v, g', ef⟩ := hfind g u w a a 99 ha ha (fun l hl => ⟨fun y => (by
          rcases y with y | y
          · exact Or.inl ((nI_eq (by omega) (by omega)).mp y)
          · exact absurd y (nI_ne (b := 99) (by omega) (by omega) (by decide))), fun y => (by rcases y with y | y <;> exact Or.inl (by rw [y]))⟩)
        rw [l_cost (by omega) c5 a5 hE ha ha hbd, ef, j_bdS, j_bdS]
        unfold f_La_bestStart_98 f_La_bestStart_100 f_M_best_116 f_M_best_136
        simp only [j_letE]
        rw [if_pos (show nI 1 = 1 from rfl), nI_1]
        refine best_step (a := a) (b := 99) hss (by omega) (by decide) (hdk a a) (hls a a ha ha) (k1 := fun best least => h1' (nI 1, best, least, nI a, nI (a + 1), nI (a + 1), J)) (k2 := fun best ld ll => h2' (nI 1, best, ld, ll, nI a, 99 + 1, k_fd K g' (nI (p_mx (l_w E a a) (s 5))) (nI (p_sum (l_d E a a) (s 5))))) (fun best' least' ld' ll' hss' => ?_)
        exact hag2 _ _ 0 (by omega) ⟨best', least', ld', ll', g', _, _, hss', Or.inr ⟨rfl, rfl, rfl⟩⟩
      · dsimp only
        unfold f_La_bestStart_55b f_M_best_57b f_M_best_73
        refine wp2_Rp rfl (wp2_Lp (nI_le (Nat.le_refl _) (by omega)) (wp2_Rp (by decide) ?_))
        rw [j_letE, j_letE, nI_1]
        exact nxo best least ld ll _ _ _ hss
    · have en2 : n = 2 := by omega
      subst en2
      have n1 : ¬ nI 2 = 1 := by decide
      refine wp2_Ln n1 (wp2_Rn n1 (wp2_Ln n1 ?_))
      unfold f_La_bestStart_55 f_M_best_57
      rw [nI_1, a5]
      refine j_it2 (Inv := fun k q r => ∃ b best least ld ll g u w, b + k = s 5 ∧ a < b ∧ q = (nI 2, best, least, nI a, nI (s 5), nI b, J) ∧ r = (nI 2, best, ld, ll, nI a, nI b, k_fd K g u w) ∧ l_SS best least ld ll) ?_ F (s 5 - (a + 1)) _ _ (by omega) ⟨a + 1, best, least, ld, ll, g, u, w, by omega, by omega, rfl, rfl, hss⟩
      intro k2 q r h1' h2' hq hag2
      obtain ⟨b, best, least, ld, ll, g, u, w, hk2, hab, rfl, rfl, hss⟩ := hq
      dsimp only
      unfold f_La_bestStart_55b f_M_best_57b f_M_best_73
      rw [e28]
      refine wp2_Rn n1 ?_
      by_cases eb : b = s 5
      · have c : nI (s 5) ≤ nI b := nI_le (by omega) (by omega)
        refine wp2_Lp c (wp2_Rp c ?_)
        simp only [j_letE, nI_1]
        exact nxo best least ld ll _ _ _ hss
      · have c : ¬ nI (s 5) ≤ nI b := nI_ge (by omega) (by omega)
        have hb : b < s 5 := by omega
        refine wp2_Ln c (wp2_Rn c ?_)
        obtain ⟨v, g', ef⟩ := hfind g u w a b (nI b) ha hb (fun l hl => ⟨fun y => (by
          rcases y with y | y
          · exact Or.inl ((nI_eq (by omega) (by omega)).mp y)
          · exact Or.inr ((nI_eq (by omega) (by omega)).mp y)), fun y => (by
          rcases y with y | y
          · exact Or.inl (by rw [y])
          · exact Or.inr (by rw [y]))⟩)
        rw [l_cost (by omega) c5 a5 hE ha hb hbd, ef, j_bdS, j_bdS]
        unfold f_La_bestStart_98 f_La_bestStart_100 f_M_best_116 f_M_best_136
        simp only [j_letE]
        rw [if_neg n1, nI_1]
        refine best_step (a := a) (b := b) hss (by omega) (by omega) (hdk a b) (hls a b ha hb) (k1 := fun best least => h1' (nI 2, best, least, nI a, nI (s 5), nI (b + 1), J)) (k2 := fun best ld ll => h2' (nI 2, best, ld, ll, nI a, nI (b + 1), k_fd K g' (nI (p_mx (l_w E a b) (s 5))) (nI (p_sum (l_d E a b) (s 5))))) (fun best' least' ld' ll' hss' => ?_)
        exact hag2 _ _ (k2 - 1) (by omega) ⟨b + 1, best', least', ld', ll', g', _, _, by omega, by omega, rfl, rfl, hss'⟩
